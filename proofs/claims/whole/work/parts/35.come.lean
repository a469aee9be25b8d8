/-- one comes over: the class's row -/
def comeR (t : Int) (x : Nat → Int) (b : Nat) : Int := if b = 10 then x 10 + 1 else if b = 9 then 1 - x 9 else if x 10 + 1 < x 3 then (if b = 8 then 0 else if b = 11 then t + x 4 else x b) else (if b = 8 then 4 else if b = 14 then t else x b)
theorem comeX {σ : IM} {p : Nat} {t : Int} (ht : 0 ≤ t ∧ t ≤ 1000) (h1 : 0 ≤ σ (34 + p) 10 ∧ σ (34 + p) 10 ≤ 10) (h2 : 0 ≤ σ (34 + p) 9 ∧ σ (34 + p) 9 ≤ 1) (h3 : 0 ≤ σ (34 + p) 3 ∧ σ (34 + p) 3 ≤ 10) (h4 : 0 ≤ σ (34 + p) 4 ∧ σ (34 + p) 4 ≤ 60) : ∃ σ1 : IM, fX5_comeOver (34 + p) (mI t) (enc σ) = some (mI 0, enc σ1) ∧ (∀ b, σ1 (34 + p) b = comeR t (σ (34 + p)) b) ∧ ∀ a b, a ≠ 34 + p → σ1 a b = σ a b := by
  have e1 : iw σ (34 + p) 10 (σ (34 + p) 10 + 1) (34 + p) 9 = σ (34 + p) 9 := iw_ne (by omega)
  have e2 : iw (iw σ (34 + p) 10 (σ (34 + p) 10 + 1)) (34 + p) 9 (1 - σ (34 + p) 9) (34 + p) 10 = σ (34 + p) 10 + 1 := by rw [iw_ne (by omega), iw_eq rfl rfl]
  have e3 : iw (iw σ (34 + p) 10 (σ (34 + p) 10 + 1)) (34 + p) 9 (1 - σ (34 + p) 9) (34 + p) 3 = σ (34 + p) 3 := by rw [iw_ne (by omega), iw_ne (by omega)]
  have e4 : iw (iw (iw σ (34 + p) 10 (σ (34 + p) 10 + 1)) (34 + p) 9 (1 - σ (34 + p) 9)) (34 + p) 8 0 (34 + p) 4 = σ (34 + p) 4 := by rw [iw_ne (by omega), iw_ne (by omega), iw_ne (by omega)]
  unfold fX5_comeOver comeR
  by_cases c : σ (34 + p) 10 + 1 < σ (34 + p) 3
  · refine ⟨iw (iw (iw (iw σ (34 + p) 10 (σ (34 + p) 10 + 1)) (34 + p) 9 (1 - σ (34 + p) 9)) (34 + p) 8 0) (34 + p) 11 (t + σ (34 + p) 4), ?_, fun b => ?_, fun a b hab => ?_⟩
    · simp (implicitDefEqProofs := false) (maxSteps := 1000000) (disch := omega) only [e1, e2, e3, e4, c, ↓mm_lt_s, ↓cl_in, ↓cl_wi, ↓cl_has, ↓cl_isP, mL_le, lit_n, litL_n, mL_mI, mL_neg, mm_cl_s, mI_lt, mI_le, mI_eq, enc_at, enc_wr, enc_cp, mI_neg, mI_add, mI_sub, mI_mul, mI_ix, mm_ck_ok, mm_nz_ok, mm_bo_c, mm_bo_m0, mm_bo_m1, b01, Int.toNat_natCast, Int.reduceToNat, Int.reduceNeg, Int.reduceSub, Int.reduceAdd, Int.reduceMul, Int.reduceLT, Int.reduceLE, Int.reduceEq, ↓reduceIte, not_true, not_false_eq_true, not_true_eq_false, and_self, true_and, and_true, false_and, and_false, Decidable.not_not, stv1, stv2, stv3, stv4]
    · rw [if_pos c]
      unfold iw
      by_cases b10 : b = 10
      · rw [if_neg (by omega), if_neg (by omega), if_neg (by omega), if_pos ⟨rfl, b10⟩, if_pos b10]
      · by_cases b9 : b = 9
        · rw [if_neg (by omega), if_neg (by omega), if_pos ⟨rfl, b9⟩, if_neg b10, if_pos b9]
        · by_cases b8 : b = 8
          · rw [if_neg (by omega), if_pos ⟨rfl, b8⟩, if_neg b10, if_neg b9, if_pos b8]
          · by_cases b11 : b = 11
            · rw [if_pos ⟨rfl, b11⟩, if_neg b10, if_neg b9, if_neg b8, if_pos b11]
            · rw [if_neg (by omega), if_neg (by omega), if_neg (by omega), if_neg (by omega), if_neg b10, if_neg b9, if_neg b8, if_neg b11]
    · rw [iw_ne (by omega), iw_ne (by omega), iw_ne (by omega), iw_ne (by omega)]
  · refine ⟨iw (iw (iw (iw σ (34 + p) 10 (σ (34 + p) 10 + 1)) (34 + p) 9 (1 - σ (34 + p) 9)) (34 + p) 8 4) (34 + p) 14 t, ?_, fun b => ?_, fun a b hab => ?_⟩
    · simp (implicitDefEqProofs := false) (maxSteps := 1000000) (disch := omega) only [e1, e2, e3, c, ↓mm_lt_s, ↓cl_in, ↓cl_wi, ↓cl_has, ↓cl_isP, mL_le, lit_n, litL_n, mL_mI, mL_neg, mm_cl_s, mI_lt, mI_le, mI_eq, enc_at, enc_wr, enc_cp, mI_neg, mI_add, mI_sub, mI_mul, mI_ix, mm_ck_ok, mm_nz_ok, mm_bo_c, mm_bo_m0, mm_bo_m1, b01, Int.toNat_natCast, Int.reduceToNat, Int.reduceNeg, Int.reduceSub, Int.reduceAdd, Int.reduceMul, Int.reduceLT, Int.reduceLE, Int.reduceEq, ↓reduceIte, not_true, not_false_eq_true, not_true_eq_false, and_self, true_and, and_true, false_and, and_false, Decidable.not_not, stv1, stv2, stv3, stv4]
    · rw [if_neg c]
      unfold iw
      by_cases b10 : b = 10
      · rw [if_neg (by omega), if_neg (by omega), if_neg (by omega), if_pos ⟨rfl, b10⟩, if_pos b10]
      · by_cases b9 : b = 9
        · rw [if_neg (by omega), if_neg (by omega), if_pos ⟨rfl, b9⟩, if_neg b10, if_pos b9]
        · by_cases b8 : b = 8
          · rw [if_neg (by omega), if_pos ⟨rfl, b8⟩, if_neg b10, if_neg b9, if_pos b8]
          · by_cases b14 : b = 14
            · rw [if_pos ⟨rfl, b14⟩, if_neg b10, if_neg b9, if_neg b8, if_pos b14]
            · rw [if_neg (by omega), if_neg (by omega), if_neg (by omega), if_neg (by omega), if_neg b10, if_neg b9, if_neg b8, if_neg b14]
    · rw [iw_ne (by omega), iw_ne (by omega), iw_ne (by omega), iw_ne (by omega)]
/-- the reference's -/
def comeC (t tr : Int) (y : Nat → Int) (a : Nat) : Int := if a = 9 then y 9 + 1 else if a = 6 then 1 - y 6 else if a = 10 then t else if a = 5 then (if y 9 + 1 = tr then 4 else 1) else if a = 15 then (if y 9 + 1 = tr then t else -4) else y a
theorem comeM {τ : IM} {p : Nat} {t : Int} (hp : p < 10) (ht : 0 ≤ t ∧ t ≤ 1000) (h1 : 0 ≤ τ 9 p ∧ τ 9 p ≤ 10) (h2 : 0 ≤ τ 6 p ∧ τ 6 p ≤ 1) (h3 : 0 ≤ τ 1 (7 * p + 4) ∧ τ 1 (7 * p + 4) ≤ 10) : ∃ τ1 : IM, fX7_comeOver (mI p) (mI t) (enc τ) = some (mI 0, enc τ1) ∧ (∀ a, 5 ≤ a → a ≤ 17 → τ1 a p = comeC t (τ 1 (7 * p + 4)) (fun a => τ a p) a) ∧ ∀ a b, ¬ ((5 ≤ a ∧ a ≤ 17) ∧ b = p) → τ1 a b = τ a b := by
  have n4 : (7 * (p : Int) + 4).toNat = 7 * p + 4 := by omega
  have e1 : iw τ 9 p (τ 9 p + 1) 6 p = τ 6 p := iw_ne (by omega)
  have e2 : iw (iw (iw τ 9 p (τ 9 p + 1)) 6 p (1 - τ 6 p)) 10 p t 9 p = τ 9 p + 1 := by rw [iw_ne (by omega), iw_ne (by omega), iw_eq rfl rfl]
  have e3 : iw (iw (iw τ 9 p (τ 9 p + 1)) 6 p (1 - τ 6 p)) 10 p t 1 (7 * p + 4) = τ 1 (7 * p + 4) := by rw [iw_ne (by omega), iw_ne (by omega), iw_ne (by omega)]
  have e4 : ∀ v : Int, iw (iw (iw (iw τ 9 p (τ 9 p + 1)) 6 p (1 - τ 6 p)) 10 p t) 5 p v 5 p = v := fun v => iw_eq rfl rfl
  have key : ∀ v w : Int, (if τ 9 p + 1 = τ 1 (7 * p + 4) then 4 else 1) = v → (if τ 9 p + 1 = τ 1 (7 * p + 4) then t else -4) = w → (∀ a, 5 ≤ a → a ≤ 17 → iw (iw (iw (iw (iw τ 9 p (τ 9 p + 1)) 6 p (1 - τ 6 p)) 10 p t) 5 p v) 15 p w a p = comeC t (τ 1 (7 * p + 4)) (fun a => τ a p) a) ∧ ∀ a b, ¬ ((5 ≤ a ∧ a ≤ 17) ∧ b = p) → iw (iw (iw (iw (iw τ 9 p (τ 9 p + 1)) 6 p (1 - τ 6 p)) 10 p t) 5 p v) 15 p w a b = τ a b := fun v w hv hw => by
    refine ⟨fun a _ _ => ?_, fun a b hab => ?_⟩
    · unfold comeC iw
      dsimp only
      rw [hv, hw]
      by_cases a9 : a = 9
      · rw [if_neg (by omega), if_neg (by omega), if_neg (by omega), if_neg (by omega), if_pos ⟨a9, rfl⟩, if_pos a9]
      · by_cases a6 : a = 6
        · rw [if_neg (by omega), if_neg (by omega), if_neg (by omega), if_pos ⟨a6, rfl⟩, if_neg a9, if_pos a6]
        · by_cases a10 : a = 10
          · rw [if_neg (by omega), if_neg (by omega), if_pos ⟨a10, rfl⟩, if_neg a9, if_neg a6, if_pos a10]
          · by_cases a5 : a = 5
            · rw [if_neg (by omega), if_pos ⟨a5, rfl⟩, if_neg a9, if_neg a6, if_neg a10, if_pos a5]
            · by_cases a15 : a = 15
              · rw [if_pos ⟨a15, rfl⟩, if_neg a9, if_neg a6, if_neg a10, if_neg a5, if_pos a15]
              · rw [if_neg (by omega), if_neg (by omega), if_neg (by omega), if_neg (by omega), if_neg (by omega), if_neg a9, if_neg a6, if_neg a10, if_neg a5, if_neg a15]
    · rw [iw_ne (by omega), iw_ne (by omega), iw_ne (by omega), iw_ne (by omega), iw_ne (by omega)]
  unfold fX7_comeOver
  by_cases c : τ 9 p + 1 = τ 1 (7 * p + 4)
  · obtain ⟨k1, k2⟩ := key 4 t (if_pos c) (if_pos c)
    refine ⟨_, ?_, k1, k2⟩
    simp (implicitDefEqProofs := false) (maxSteps := 1000000) (disch := omega) only [n4, e1, e2, e3, e4, eq_true c, ↓mm_lt_s, ↓cl_in, ↓cl_wi, ↓cl_has, ↓cl_isP, mL_le, lit_n, litL_n, mL_mI, mL_neg, mm_cl_s, mI_lt, mI_le, mI_eq, enc_at, enc_wr, enc_cp, mI_neg, mI_add, mI_sub, mI_mul, mI_ix, mm_ck_ok, mm_nz_ok, mm_bo_c, mm_bo_m0, mm_bo_m1, b01, Int.toNat_natCast, Int.reduceToNat, Int.reduceNeg, Int.reduceSub, Int.reduceAdd, Int.reduceMul, Int.reduceLT, Int.reduceLE, Int.reduceEq, ↓reduceIte, not_true, not_false_eq_true, not_true_eq_false, and_self, true_and, and_true, false_and, and_false, Decidable.not_not, stv1, stv2, stv3, stv4]
  · obtain ⟨k1, k2⟩ := key 1 (-4) (if_neg c) (if_neg c)
    refine ⟨_, ?_, k1, k2⟩
    simp (implicitDefEqProofs := false) (maxSteps := 1000000) (disch := omega) only [n4, e1, e2, e3, e4, c, ↓mm_lt_s, ↓cl_in, ↓cl_wi, ↓cl_has, ↓cl_isP, mL_le, lit_n, litL_n, mL_mI, mL_neg, mm_cl_s, mI_lt, mI_le, mI_eq, enc_at, enc_wr, enc_cp, mI_neg, mI_add, mI_sub, mI_mul, mI_ix, mm_ck_ok, mm_nz_ok, mm_bo_c, mm_bo_m0, mm_bo_m1, b01, Int.toNat_natCast, Int.reduceToNat, Int.reduceNeg, Int.reduceSub, Int.reduceAdd, Int.reduceMul, Int.reduceLT, Int.reduceLE, Int.reduceEq, ↓reduceIte, not_true, not_false_eq_true, not_true_eq_false, and_self, true_and, and_true, false_and, and_false, Decidable.not_not, stv1, stv2, stv3, stv4]
/-- what was told of a walker -/
def WS (x pe : Nat → Int) : Prop := (x 0 = pe 0 ∧ 0 ≤ pe 0 ∧ pe 0 ≤ 499) ∧ (x 1 = pe 1 ∧ 0 ≤ pe 1 ∧ pe 1 ≤ 1) ∧ (x 2 = pac (pe 2) (pe 3) ∧ 1 ≤ x 2 ∧ x 2 ≤ 40) ∧ (x 3 = pe 4 ∧ 1 ≤ pe 4 ∧ pe 4 ≤ 6) ∧ (x 4 = pe 5 ∧ 0 ≤ pe 5 ∧ pe 5 ≤ 60)
/-- where a walker is, in both; u: no start is due ahead of it, w: the minutes gone -/
def WD (x y pe : Nat → Int) (u w : Int) : Prop :=
  ((x 9 = y 6 ∧ 0 ≤ y 6 ∧ y 6 ≤ 1) ∧ (x 10 = y 9 ∧ 0 ≤ y 9 ∧ y 9 ≤ pe 4 ∧ (y 5 ≠ 4 → y 9 < pe 4))) ∧
  ((y 5 ≠ 4 ∧ x 14 = 1000 ∧ y 15 = -4) ∨ (y 5 = 4 ∧ x 14 = y 15 ∧ 0 ≤ y 15 ∧ y 15 < w)) ∧
  ((x 16 = y 13 ∧ 0 ≤ y 13 ∧ y 13 ≤ w) ∧ (x 17 = y 14 ∧ 0 ≤ y 14 ∧ y 14 ≤ u) ∧ (x 15 = y 12 - (if y 5 = 3 then 1 else 0) ∧ 0 ≤ x 15 ∧ y 12 ≤ u)) ∧
  (((0 ≤ x 12 ∧ x 12 ≤ 440) ∧ (0 ≤ x 11 ∧ x 11 ≤ 2000)) ∧ (1 ≤ x 13 ∧ x 13 ≤ 40) ∧ (0 ≤ y 7 ∧ y 7 ≤ 440) ∧ (0 ≤ y 8 ∧ y 8 ≤ 1)) ∧
  ((x 8 = 0 ∧ ((y 5 = 0 ∧ x 11 = pe 0) ∨ (y 5 = 1 ∧ x 11 = y 10 + pe 5 ∧ u ≤ x 11 ∧ 0 ≤ y 10 ∧ y 10 < w))) ∨ (x 8 = 1 ∧ y 5 = 2 ∧ y 8 = 0 ∧ x 12 = y 7 ∧ x 13 = y 11 ∧ y 7 ≤ 400) ∨ (x 8 = 2 ∧ y 5 = 2 ∧ y 8 = 1 ∧ x 13 = y 11 ∧ x 12 = y 7) ∨ (x 8 = 3 ∧ y 5 = 3 ∧ x 11 = y 10 ∧ 0 ≤ y 10 ∧ y 10 ≤ 2000) ∨ (x 8 = 4 ∧ y 5 = 4))
/-- coming over off the bridge, in the minute t -/
theorem WD.come {x y pe : Nat → Int} {t : Int} (hs : WS x pe) (h : WD x y pe t (t + 1)) (h5 : y 5 = 2) (ht : 0 ≤ t ∧ t ≤ 1000) : WD (comeR t x) (comeC t (pe 4) y) pe t (t + 1) := by
  obtain ⟨s1, s2, s3, s4, s5⟩ := hs
  obtain ⟨⟨a1, a2⟩, a3, ⟨a4, a5, a6⟩, ⟨a7, a8, a9, a10⟩, a11⟩ := h
  rw [if_neg (by omega)] at a6
  unfold WD
  by_cases c : y 9 + 1 = pe 4
  · have c1 : ¬ x 10 + 1 < x 3 := by omega
    simp (implicitDefEqProofs := false) only [comeR, comeC, if_pos c, if_neg c1, Nat.reduceEqDiff, Int.reduceEq, ne_eq, not_true_eq_false, not_false_eq_true, true_and, and_true, false_and, and_false, or_false, false_or, false_implies, if_true, if_false, ↓reduceIte]
    omega
  · have c1 : x 10 + 1 < x 3 := by omega
    simp (implicitDefEqProofs := false) only [comeR, comeC, if_neg c, if_pos c1, Nat.reduceEqDiff, Int.reduceEq, ne_eq, not_true_eq_false, not_false_eq_true, true_and, and_true, false_and, and_false, or_false, false_or, false_implies, if_true, if_false, ↓reduceIte]
    omega
/-- the walk of a minute, in both -/
theorem WD.walk {x y pe : Nat → Int} {t : Int} {σ τ : IM} {p : Nat} (hx : ∀ b, σ (34 + p) b = x b) (hy : ∀ a, τ a p = y a) (h : WD x y pe t t) (hp : σ 30 3 = τ 0 23) (hp2 : 1 ≤ τ 0 23 ∧ τ 0 23 ≤ 400) : WD (walkR σ p) (goR τ p) pe t t := by
  obtain ⟨⟨a1, a2⟩, a3, ⟨a4, a5, a6⟩, ⟨a7, a8, a9, a10⟩, a11⟩ := h
  unfold WD
  by_cases c : x 8 = 1
  · have c1 : y 5 = 2 ∧ y 8 = 0 := by omega
    by_cases c2 : y 7 + y 11 < τ 0 23
    · have c3 : x 12 + x 13 < τ 0 23 := by omega
      simp (implicitDefEqProofs := false) only [walkR, goR, hx, hy, hp, c, c1, c2, c3, and_self, Nat.reduceEqDiff, Int.reduceEq, ne_eq, not_true_eq_false, not_false_eq_true, true_and, and_true, false_and, and_false, or_false, false_or, false_implies, if_true, if_false, ↓reduceIte]
      omega
    · have c3 : ¬ x 12 + x 13 < τ 0 23 := by omega
      simp (implicitDefEqProofs := false) only [walkR, goR, hx, hy, hp, c, c1, c2, c3, and_self, Nat.reduceEqDiff, Int.reduceEq, ne_eq, not_true_eq_false, not_false_eq_true, true_and, and_true, false_and, and_false, or_false, false_or, false_implies, if_true, if_false, ↓reduceIte]
      omega
  · have c1 : ¬ (y 5 = 2 ∧ y 8 = 0) := by omega
    have e1 : walkR σ p = x := funext fun b => by unfold walkR; rw [hx, if_neg c, hx]
    have e2 : goR τ p = y := funext fun a => by unfold goR; rw [hy, hy, if_neg c1, hy]
    rw [e1, e2]
    exact ⟨⟨a1, a2⟩, a3, ⟨a4, a5, a6⟩, ⟨a7, a8, a9, a10⟩, a11⟩
