/-! order: class and reference -/
abbrev gO (v : Nat → Nat) (gap : Int) (k : Nat) : Int := (v k : Int) * gap
def plO (τ : IM) (w v : Nat → Nat) (t gap : Int) (n : Nat) : Nat := cN (fun k => stO τ w t (gO v gap) k ∧ ¬ τ 1 (7 * w k + 2) = 3) n
def spO (τ : IM) (w v : Nat → Nat) (t gap : Int) (n : Nat) : Nat := cN (fun k => stO τ w t (gO v gap) k ∧ τ 1 (7 * w k + 2) = 3) n
def lfO (τ : IM) (w v : Nat → Nat) (t gap : Int) (n : Nat) : Nat := cN (fun k => stO τ w t (gO v gap) k) n
theorem turnO {n : Nat} {w r v : Nat → Nat} {t gap left : Int} {τ : IM} (ht : 0 ≤ t ∧ t ≤ 999) (hg : 0 ≤ gap ∧ gap ≤ 60) (hW : WK τ n w) (hl : 0 < left ∧ left ≤ 6) (hB : ∀ k, k < n → (-1 ≤ τ 22 k ∧ τ 22 k ≤ 1000) ∧ (0 ≤ τ 8 k ∧ τ 8 k ≤ 1) ∧ (0 ≤ τ 7 k ∧ τ 7 k ≤ 1000)) (hok : okP n r = true) (hr : ∀ j, j < n → τ 20 j = (r j : Int) ∧ r j < n ∧ v (r j) = j) (hv : ∀ k, k < n → v k < n ∧ r (v k) = k) (h23 : 1 ≤ τ 0 23 ∧ τ 0 23 ≤ 400) (h26 : 0 ≤ τ 0 26 ∧ τ 0 26 ≤ 2) (h0 : 0 ≤ τ 2 0 ∧ τ 2 0 ≤ 200) (h2 : 0 ≤ τ 2 2 ∧ τ 2 2 ≤ 200) (h18 : -1000 ≤ τ 18 0 ∧ τ 18 0 ≤ 1000) : ∃ τ' : IM, (∀ (N : Nat) (K : Mm → Aa) (z : Int32 → Int32 → Mm → Aa), mm_lk z (fX7_goOrder_L11 (mI gap) K) (N + 1) (mI left) (mI t) (enc τ) = mm_lk z (fX7_goOrder_L11 (mI gap) K) N (mI (left - (lfO τ w v t gap n : Int))) (mI (t + 1)) (enc τ')) ∧ (∀ k, k < n → τ' 7 k = (if actO τ t (gO v gap) k then col7 τ w k else τ 7 k) ∧ τ' 8 k = (if actO τ t (gO v gap) k then col8 τ w k else τ 8 k) ∧ τ' 22 k = (if stO τ w t (gO v gap) k then t else τ 22 k)) ∧ τ' 18 0 = (if τ 0 26 = 2 ∧ ¬ (plO τ w v t gap n : Int) = 0 ∧ ¬ t - τ 2 2 ≤ τ 18 0 then t else τ 18 0) ∧ τ' 0 23 = (if τ 0 23 + τ 2 0 * (cntV (plO τ w v t gap n : Int) t (τ 18 0) (τ 0 26) (τ 2 2) + (spO τ w v t gap n : Int)) < 400 then τ 0 23 + τ 2 0 * (cntV (plO τ w v t gap n : Int) t (τ 18 0) (τ 0 26) (τ 2 2) + (spO τ w v t gap n : Int)) else 400) ∧ ∀ a b, ¬ ((a = 7 ∨ a = 8 ∨ a = 22) ∧ b < n) → ¬ (a = 18 ∧ b = 0) → ¬ (a = 0 ∧ b = 23) → τ' a b = τ a b := by
  have h29 := hW.1.1
  have h6 := hW.1.2
  have S := fun K z NF (hNF : n < NF) => ordL (n := n) (w := w) (r := r) (v := v) (t := t) (gap := gap) (left := left) (τ := τ) (by omega) hg hW (by omega) h23 hB hr hv n 0 (by omega) NF hNF K z
  have z4 : SO τ w t (fun k => (v k : Int) * gap) v n 0 = τ := by
    funext a b
    exact if_neg (fun x => by have := x.1.2; omega)
  have z1 : cN (fun q => stO τ w t (fun k => (v k : Int) * gap) (r q)) 0 = 0 := rfl
  have z2 : cN (fun q => stO τ w t (fun k => (v k : Int) * gap) (r q) ∧ ¬ τ 1 (7 * w (r q) + 2) = 3) 0 = 0 := rfl
  have z3 : cN (fun q => stO τ w t (fun k => (v k : Int) * gap) (r q) ∧ τ 1 (7 * w (r q) + 2) = 3) 0 = 0 := rfl
  have y1 : cN (fun q => stO τ w t (fun k => (v k : Int) * gap) (r q)) n = lfO τ w v t gap n := okP_cN hok (p := fun k => stO τ w t (fun k => (v k : Int) * gap) k)
  have y2 : cN (fun q => stO τ w t (fun k => (v k : Int) * gap) (r q) ∧ ¬ τ 1 (7 * w (r q) + 2) = 3) n = plO τ w v t gap n := okP_cN hok (p := fun k => stO τ w t (fun k => (v k : Int) * gap) k ∧ ¬ τ 1 (7 * w k + 2) = 3)
  have y3 : cN (fun q => stO τ w t (fun k => (v k : Int) * gap) (r q) ∧ τ 1 (7 * w (r q) + 2) = 3) n = spO τ w v t gap n := okP_cN hok (p := fun k => stO τ w t (fun k => (v k : Int) * gap) k ∧ τ 1 (7 * w k + 2) = 3)
  rw [z1, z2, z3, z4, y1, y2, y3, cast0, show left - ((0 : Nat) : Int) = left by omega] at S
  have pb : plO τ w v t gap n ≤ n := cN_le n
  have sb : spO τ w v t gap n ≤ n := cN_le n
  have lb : lfO τ w v t gap n ≤ n := cN_le n
  have f2 : ∀ a b, ¬ ((a = 7 ∨ a = 8 ∨ a = 22) ∧ b < n) → SO τ w t (fun k => (v k : Int) * gap) v n n a b = τ a b := fun a b hab => SO_ne hab
  have f3 : ∀ k, k < n → SO τ w t (fun k => (v k : Int) * gap) v n n 7 k = (if actO τ t (gO v gap) k then col7 τ w k else τ 7 k) ∧ SO τ w t (fun k => (v k : Int) * gap) v n n 8 k = (if actO τ t (gO v gap) k then col8 τ w k else τ 8 k) ∧ SO τ w t (fun k => (v k : Int) * gap) v n n 22 k = (if stO τ w t (gO v gap) k then t else τ 22 k) := fun k hk => by
    have vk := (hv k hk).1
    have so : ∀ a, SO τ w t (fun k => (v k : Int) * gap) v n n a k = (if actO τ t (gO v gap) k then (if a = 7 then col7 τ w k else if a = 8 then col8 τ w k else if a = 22 then (if col8 τ w k = 1 then t else τ 22 k) else τ a k) else τ a k) := fun a => by
      unfold SO
      by_cases x : actO τ t (gO v gap) k
      · rw [if_pos x]
        exact if_pos ⟨⟨hk, vk⟩, x⟩
      · rw [if_neg x]
        exact if_neg (fun z => x z.2)
    rw [so, so, so]
    by_cases x : actO τ t (gO v gap) k
    · refine ⟨?_, ?_, ?_⟩
      · rw [if_pos x, if_pos x]; rfl
      · rw [if_pos x, if_pos x]; rfl
      · rw [if_pos x, if_neg (by decide), if_neg (by decide), if_pos rfl]
        by_cases y : col8 τ w k = 1
        · rw [if_pos y]
          exact (if_pos ⟨x, y⟩).symm
        · rw [if_neg y]
          exact (if_neg (fun z => y z.2)).symm
    · refine ⟨?_, ?_, ?_⟩
      · rw [if_neg x, if_neg x]
      · rw [if_neg x, if_neg x]
      · rw [if_neg x]
        exact (if_neg (fun z => x z.1)).symm
  generalize hSO : SO τ w t (fun k => (v k : Int) * gap) v n n = τ1 at *
  obtain ⟨τ3, C1, C2, C3⟩ := countM (τ := τ1) (l := 0) (c := (plO τ w v t gap n : Int)) (s := (spO τ w v t gap n : Int)) (t := t) (by omega) (by omega) (by omega) (by omega) (by rw [f2 _ _ (by omega)]; omega) (by rw [f2 _ _ (by omega)]; omega) (by rw [f2 _ _ (by omega)]; exact h18)
  rw [f2 18 0 (by omega), f2 0 26 (by omega), f2 2 2 (by omega)] at C1 C3
  have cr := cntV_rng (c := (plO τ w v t gap n : Int)) (t := t) (last := τ 18 0) (l1 := τ 0 26) (l2 := τ 2 2) (by omega)
  generalize hcv : cntV (plO τ w v t gap n : Int) t (τ 18 0) (τ 0 26) (τ 2 2) + (spO τ w v t gap n : Int) = cv at *
  have cvb : 0 ≤ cv ∧ cv ≤ 20 := by omega
  have m1 : 0 ≤ τ 2 0 * cv := Int.mul_nonneg h0.1 cvb.1
  have m2 : τ 2 0 * cv ≤ 200 * 20 := Int.mul_le_mul h0.2 cvb.2 cvb.1 (by omega)
  have g23 : τ1 0 23 = τ 0 23 := f2 _ _ (by omega)
  have g20 : τ1 2 0 = τ 2 0 := f2 _ _ (by omega)
  have e3 : (if 400 < τ 0 23 + τ 2 0 * cv then 400 else τ 0 23 + τ 2 0 * cv) = (if τ 0 23 + τ 2 0 * cv < 400 then τ 0 23 + τ 2 0 * cv else 400) := by
    generalize τ 0 23 + τ 2 0 * cv = v
    split <;> split <;> omega
  refine ⟨iw τ3 0 23 (if τ 0 23 + τ 2 0 * cv < 400 then τ 0 23 + τ 2 0 * cv else 400), fun N K z => ?_, fun k hk => ?_, ?_, ?_, fun a b hab h1 h2 => ?_⟩
  · have nl : ¬ left ≤ 0 := by omega
    rw [show (((0 : Nat) : Int)) = 0 from rfl] at C1
    rw [← e3, mm_lk_s, fX7_goOrder_L11]
    generalize left - (lfO τ w v t gap n : Int) = lv at *
    generalize hfu : mm_fu = NF; have hNF : 4096 ≤ NF := by rw [← hfu]; exact Nat.le_refl _
    simp (implicitDefEqProofs := false) (maxSteps := 1000000) (disch := omega) only [nl, ↓mm_lt_s, ↓cl_in, ↓cl_wi, ↓cl_has, ↓cl_isP, mL_le, lit_n, litL_n, mL_mI, mL_neg, mm_cl_s, mI_lt, mI_le, mI_eq, enc_at, enc_wr, enc_cp, mI_neg, mI_add, mI_sub, mI_mul, mI_ix, mm_ck_ok, mm_nz_ok, mm_bo_c, mm_bo_m0, mm_bo_m1, b01, Int.toNat_natCast, Int.reduceToNat, Int.reduceNeg, Int.reduceSub, Int.reduceAdd, Int.reduceMul, Int.reduceLT, Int.reduceLE, Int.reduceEq, ↓reduceIte, not_true, not_false_eq_true, not_true_eq_false, and_self, true_and, and_true, false_and, and_false, Decidable.not_not, stv1, stv2, stv3, stv4]
    rw [S _ _ NF (by omega)]
    simp (implicitDefEqProofs := false) (maxSteps := 1000000) (disch := omega) only [↓mm_lt_s, ↓cl_in, ↓cl_wi, ↓cl_has, ↓cl_isP, mL_le, lit_n, litL_n, mL_mI, mL_neg, mm_cl_s, mI_lt, mI_le, mI_eq, enc_at, enc_wr, enc_cp, mI_neg, mI_add, mI_sub, mI_mul, mI_ix, mm_ck_ok, mm_nz_ok, mm_bo_c, mm_bo_m0, mm_bo_m1, b01, Int.toNat_natCast, Int.reduceToNat, Int.reduceNeg, Int.reduceSub, Int.reduceAdd, Int.reduceMul, Int.reduceLT, Int.reduceLE, Int.reduceEq, ↓reduceIte, not_true, not_false_eq_true, not_true_eq_false, and_self, true_and, and_true, false_and, and_false, Decidable.not_not, stv1, stv2, stv3, stv4]
    rw [C1]
    simp (implicitDefEqProofs := false) (maxSteps := 1000000) (disch := omega) only [g23, g20, least_s, ↓mm_lt_s, ↓cl_in, ↓cl_wi, ↓cl_has, ↓cl_isP, mL_le, lit_n, litL_n, mL_mI, mL_neg, mm_cl_s, mI_lt, mI_le, mI_eq, enc_at, enc_wr, enc_cp, mI_neg, mI_add, mI_sub, mI_mul, mI_ix, mm_ck_ok, mm_nz_ok, mm_bo_c, mm_bo_m0, mm_bo_m1, b01, Int.toNat_natCast, Int.reduceToNat, Int.reduceNeg, Int.reduceSub, Int.reduceAdd, Int.reduceMul, Int.reduceLT, Int.reduceLE, Int.reduceEq, ↓reduceIte, not_true, not_false_eq_true, not_true_eq_false, and_self, true_and, and_true, false_and, and_false, Decidable.not_not, stv1, stv2, stv3, stv4]
  · rw [iw_ne (by omega), iw_ne (by omega), iw_ne (by omega), C2 _ _ (by omega), C2 _ _ (by omega), C2 _ _ (by omega)]
    exact f3 k hk
  · rw [iw_ne (by omega)]; exact C3
  · rw [iw_eq rfl rfl]
  · rw [iw_ne h2, C2 a b h1, f2 a b hab]
def OQ (x : Nat → Int) (y7 y8 e g t : Int) : Prop := (x 8 = 0 ∧ x 9 = 0 ∧ x 11 = g ∧ t ≤ g ∧ y7 = 0 ∧ y8 = 0 ∧ e = -1) ∨ (x 8 = 1 ∧ x 9 = 0 ∧ g < t ∧ y8 = 0 ∧ e = -1 ∧ x 12 = y7 ∧ x 13 = x 2 ∧ t - 1 - g ≤ y7 ∧ y7 ≤ 400) ∨ (x 8 = 4 ∧ x 9 = 1 ∧ x 14 = e ∧ 0 ≤ e ∧ e ≤ 1000)
/-- a row's minute -/
theorem OQ.min {x y : Nat → Int} {e g t P : Int} (ht : 0 ≤ t ∧ t ≤ 999) (h : OQ x (y 7) (y 8) e g t) (h7 : 0 ≤ y 7 ∧ y 7 ≤ 440) (h8 : 0 ≤ y 8 ∧ y 8 ≤ 1) (h2 : 1 ≤ x 2 ∧ x 2 ≤ 40) (hP : P ≤ 400) (hx : x 3 = 1 ∧ 0 ≤ x 10) : (wlkR P x 8 = 2 ↔ ((e < 0 ∧ g < t) ∧ gsC P (x 2) y 8 = 1)) ∧ OQ (stQ t (offR t 0 (wlkR P x))) (if e < 0 ∧ g < t then gsC P (x 2) y 7 else y 7) (if e < 0 ∧ g < t then gsC P (x 2) y 8 else y 8) (if (e < 0 ∧ g < t) ∧ gsC P (x 2) y 8 = 1 then t else e) g (t + 1) ∧ (0 ≤ (if e < 0 ∧ g < t then gsC P (x 2) y 7 else y 7) ∧ (if e < 0 ∧ g < t then gsC P (x 2) y 7 else y 7) ≤ 440) ∧ (0 ≤ (if e < 0 ∧ g < t then gsC P (x 2) y 8 else y 8) ∧ (if e < 0 ∧ g < t then gsC P (x 2) y 8 else y 8) ≤ 1) := by
  rcases h with ⟨a1, a2, a3, a4, a5, a6, a7⟩ | ⟨a1, a2, a3, a4, a5, a6, a7, a8, a9⟩ | ⟨a1, a2, a3, a4, a5⟩
  · have w : wlkR P x = x := funext fun b => by unfold wlkR; rw [if_neg (by omega)]
    have na : ¬ (e < 0 ∧ g < t) := by omega
    have nb : ¬ ((e < 0 ∧ g < t) ∧ gsC P (x 2) y 8 = 1) := fun z => na z.1
    rw [w, if_neg na, if_neg na, if_neg nb, offR_no (by omega)]
    refine ⟨⟨fun z => by omega, fun z => absurd z nb⟩, ?_, h7, h8⟩
    unfold stQ
    by_cases c : x 8 = 0 ∧ x 11 = t
    · rw [if_pos c]
      exact Or.inr (Or.inl ⟨rfl, a2, by omega, a6, a7, a5.symm, rfl, by omega, by omega⟩)
    · rw [if_neg c]
      exact Or.inl ⟨a1, a2, a3, by omega, a5, a6, a7⟩
  · have ac : e < 0 ∧ g < t := by omega
    have e7 : gsC P (x 2) y 7 = y 7 + x 2 := by unfold gsC; rw [if_pos a4, if_pos rfl]
    have e8 : gsC P (x 2) y 8 = (if y 7 + x 2 < P then 0 else 1) := by unfold gsC; rw [if_pos a4, if_neg (by decide), if_pos rfl]
    have w8 : wlkR P x 8 = (if y 7 + x 2 < P then 1 else 2) := by unfold wlkR; rw [if_pos a1, if_neg (by decide), if_pos rfl, a6, a7]
    have w12 : wlkR P x 12 = y 7 + x 2 := by unfold wlkR; rw [if_pos a1, if_pos rfl, a6, a7]
    have wo : ∀ b, b ≠ 12 → b ≠ 8 → wlkR P x b = x b := fun b n1 n2 => by unfold wlkR; rw [if_pos a1, if_neg n1, if_neg n2]
    rw [if_pos ac, if_pos ac, e7, e8, w8]
    by_cases c : y 7 + x 2 < P
    · rw [if_pos c, if_pos c]
      have nb : ¬ ((e < 0 ∧ g < t) ∧ (0 : Int) = 1) := fun z => absurd z.2 (by decide)
      rw [if_neg nb]
      have w8' : wlkR P x 8 = 1 := by rw [w8, if_pos c]
      have oo : offR t 0 (wlkR P x) = wlkR P x := offR_no (by omega)
      have ss : stQ t (wlkR P x) = wlkR P x := by unfold stQ; rw [if_neg (by omega)]
      rw [oo, ss]
      refine ⟨⟨fun z => absurd z (by decide), fun z => absurd z nb⟩, ?_, by omega, by omega⟩
      unfold OQ
      rw [w8', w12, wo 9 (by decide) (by decide), wo 13 (by decide) (by decide), wo 2 (by decide) (by decide)]
      exact Or.inr (Or.inl ⟨rfl, a2, by omega, rfl, a5, rfl, a7, by omega, by omega⟩)
    · rw [if_neg c, if_neg c]
      have yb : (e < 0 ∧ g < t) ∧ (1 : Int) = 1 := ⟨ac, rfl⟩
      rw [if_pos yb]
      have w8' : wlkR P x 8 = 2 := by rw [w8, if_neg c]
      have oo : offR t 0 (wlkR P x) = comeR t (wlkR P x) := funext fun b => by unfold offR; rw [if_pos w8', if_neg (by decide)]
      have lt : ¬ wlkR P x 10 + 1 < wlkR P x 3 := by rw [wo 10 (by decide) (by decide), wo 3 (by decide) (by decide)]; omega
      have c8 : comeR t (wlkR P x) 8 = 4 := by
        unfold comeR
        rw [if_neg (by decide), if_neg (by decide), if_neg lt, if_pos rfl]
      have c9 : comeR t (wlkR P x) 9 = 1 - x 9 := by
        unfold comeR
        rw [if_neg (by decide), if_pos rfl, wo 9 (by decide) (by decide)]
      have c14 : comeR t (wlkR P x) 14 = t := by
        unfold comeR
        rw [if_neg (by decide), if_neg (by decide), if_neg lt, if_neg (by decide), if_pos rfl]
      have ss : stQ t (comeR t (wlkR P x)) = comeR t (wlkR P x) := by unfold stQ; rw [if_neg (by rw [c8]; omega)]
      rw [oo, ss]
      refine ⟨⟨fun _ => yb, fun _ => rfl⟩, ?_, by omega, by omega⟩
      unfold OQ
      rw [c8, c9, c14]
      exact Or.inr (Or.inr ⟨rfl, by omega, rfl, by omega, by omega⟩)
  · have w : wlkR P x = x := funext fun b => by unfold wlkR; rw [if_neg (by omega)]
    have na : ¬ (e < 0 ∧ g < t) := by omega
    have nb : ¬ ((e < 0 ∧ g < t) ∧ gsC P (x 2) y 8 = 1) := fun z => na z.1
    have ss : stQ t x = x := by unfold stQ; rw [if_neg (by omega)]
    rw [w, if_neg na, if_neg na, if_neg nb, offR_no (by omega), ss]
    exact ⟨⟨fun z => by omega, fun z => absurd z nb⟩, Or.inr (Or.inr ⟨a1, a2, a3, a4, a5⟩), h7, h8⟩
