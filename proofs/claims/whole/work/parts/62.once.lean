/-! soonest, order: loaded once -/
def onceR (σ : IM) (w : Nat → Nat) (p b : Nat) : Int := if b = 0 then 0 else if b = 1 then 0 else if b = 2 then pac (σ (4 + w p) 2) (σ (4 + w p) 3) else if b = 3 then 1 else if b = 4 then 0 else if b = 5 then (if σ (4 + w p) 2 = 3 then 1 else 0) else if b = 6 then p else if b = 7 then 0 else σ (34 + p) b
theorem onceX_L {K : Mm → Aa} {z : Int32 → Mm → Aa} {n : Nat} {w : Nat → Nat} (hn : n ≤ 6) : ∀ (d i N : Nat) (σ : IM), i + d = n → d < N → σ 30 6 = (n : Int) → (∀ p, p < n → w p < 10 ∧ σ 46 p = (w p : Int) ∧ (0 ≤ σ (4 + w p) 2 ∧ σ (4 + w p) 2 ≤ 3) ∧ (1 ≤ σ (4 + w p) 3 ∧ σ (4 + w p) 3 ≤ 20)) → mm_lk z (fX0_loadOnce_L40 K) N (mI i) (enc σ) = K (enc (each σ i n (onceR σ w)))
  | d, i, 0, σ, _, h, _, _ => absurd h (Nat.not_lt_zero d)
  | 0, i, N + 1, σ, h, _, hs, _ => by
    have e : i = n := by omega
    subst e
    rw [mm_lk_s, fX0_loadOnce_L40, each_nil]
    simp (implicitDefEqProofs := false) (maxSteps := 1000000) (disch := omega) only [hs, ↓mm_lt_s, ↓cl_in, ↓cl_wi, ↓cl_has, ↓cl_isP, mL_le, lit_n, litL_n, mL_mI, mL_neg, mm_cl_s, mI_lt, mI_le, mI_eq, enc_at, enc_wr, enc_cp, mI_neg, mI_add, mI_sub, mI_mul, mI_ix, mm_ck_ok, mm_nz_ok, mm_bo_c, mm_bo_m0, mm_bo_m1, b01, Int.toNat_natCast, Int.reduceToNat, Int.reduceNeg, Int.reduceSub, Int.reduceAdd, Int.reduceMul, Int.reduceLT, Int.reduceLE, Int.reduceEq, ↓reduceIte, not_true, not_false_eq_true, not_true_eq_false, and_self, true_and, and_true, false_and, and_false, Decidable.not_not, stv1, stv2, stv3, stv4]
    repeat (first | rw [if_pos (by omega)] | rw [if_neg (by omega)])
  | d + 1, i, N + 1, σ, h, h2, hs, hF => by
    have c1 : ¬ (n : Int) ≤ (i : Int) := by omega
    obtain ⟨w1, w2, f2, f3⟩ := hF i (by omega)
    have LX := lodX (σ := σ) (i := i) (q := w i) (by omega) w1 f2 f3
    generalize hσ1 : (iw (iw (iw (iw (iw (iw (iw (iw σ (34 + i) 2 (pac (σ (4 + w i) 2) (σ (4 + w i) 3))) (34 + i) 5 (if σ (4 + w i) 2 = 3 then 1 else 0)) (34 + i) 6 i) (34 + i) 0 0) (34 + i) 1 0) (34 + i) 3 1) (34 + i) 4 0) (34 + i) 7 0) = σ1
    have k2 : ∀ a b, a ≠ 34 + i → σ1 a b = σ a b := fun a b hab => by
      rw [← hσ1, iw_ne (by omega), iw_ne (by omega), iw_ne (by omega), iw_ne (by omega), iw_ne (by omega), iw_ne (by omega), iw_ne (by omega), iw_ne (by omega)]
    have k1 : ∀ b, σ1 (34 + i) b = onceR σ w i b := fun b => by
      rw [← hσ1]
      unfold onceR iw
      by_cases b0 : b = 0
      · subst b0; repeat (first | rw [if_pos (by omega)] | rw [if_neg (by omega)])
      · by_cases b1 : b = 1
        · subst b1; repeat (first | rw [if_pos (by omega)] | rw [if_neg (by omega)])
        · by_cases b2 : b = 2
          · subst b2; repeat (first | rw [if_pos (by omega)] | rw [if_neg (by omega)])
          · by_cases b3 : b = 3
            · subst b3; repeat (first | rw [if_pos (by omega)] | rw [if_neg (by omega)])
            · by_cases b4 : b = 4
              · subst b4; repeat (first | rw [if_pos (by omega)] | rw [if_neg (by omega)])
              · by_cases b5 : b = 5
                · rw [if_neg (by omega), if_neg (by omega), if_neg (by omega), if_neg (by omega), if_neg (by omega), if_neg (by omega), if_pos (by omega), if_neg b0, if_neg b1, if_neg b2, if_neg b3, if_neg b4, if_pos b5]
                · by_cases b6 : b = 6
                  · subst b6; repeat (first | rw [if_pos (by omega)] | rw [if_neg (by omega)])
                  · by_cases b7 : b = 7
                    · subst b7; repeat (first | rw [if_pos (by omega)] | rw [if_neg (by omega)])
                    · repeat (first | rw [if_pos (by omega)] | rw [if_neg (by omega)])
    rw [← each_stepB (g := fun σ => onceR σ w) (by omega) k1 k2 (fun p b hp hpm => by
      have := (hF p hpm).1
      unfold onceR
      rw [k2 _ _ (by omega), k2 _ _ (by omega), k2 _ _ (by omega)])]
    rw [← onceX_L (K := K) (z := z) (w := w) hn d (i + 1) N σ1 (by omega) (by omega) (by rw [k2 _ _ (by omega)]; exact hs) (fun p hp => by
      have := (hF p hp).1
      rw [k2 _ _ (by omega), k2 _ _ (by omega), k2 _ _ (by omega)]
      exact hF p hp)]
    rw [mm_lk_s, fX0_loadOnce_L40]
    simp (implicitDefEqProofs := false) (maxSteps := 1000000) (disch := omega) only [hs, c1, w2, ↓mm_lt_s, ↓cl_in, ↓cl_wi, ↓cl_has, ↓cl_isP, mL_le, lit_n, litL_n, mL_mI, mL_neg, mm_cl_s, mI_lt, mI_le, mI_eq, enc_at, enc_wr, enc_cp, mI_neg, mI_add, mI_sub, mI_mul, mI_ix, mm_ck_ok, mm_nz_ok, mm_bo_c, mm_bo_m0, mm_bo_m1, b01, Int.toNat_natCast, Int.reduceToNat, Int.reduceNeg, Int.reduceSub, Int.reduceAdd, Int.reduceMul, Int.reduceLT, Int.reduceLE, Int.reduceEq, ↓reduceIte, not_true, not_false_eq_true, not_true_eq_false, and_self, true_and, and_true, false_and, and_false, Decidable.not_not, stv1, stv2, stv3, stv4]
    rw [LX]
    simp (implicitDefEqProofs := false) (maxSteps := 1000000) (disch := omega) only [cast_s, ↓mm_lt_s, ↓cl_in, ↓cl_wi, ↓cl_has, ↓cl_isP, mL_le, lit_n, litL_n, mL_mI, mL_neg, mm_cl_s, mI_lt, mI_le, mI_eq, enc_at, enc_wr, enc_cp, mI_neg, mI_add, mI_sub, mI_mul, mI_ix, mm_ck_ok, mm_nz_ok, mm_bo_c, mm_bo_m0, mm_bo_m1, b01, Int.toNat_natCast, Int.reduceToNat, Int.reduceNeg, Int.reduceSub, Int.reduceAdd, Int.reduceMul, Int.reduceLT, Int.reduceLE, Int.reduceEq, ↓reduceIte, not_true, not_false_eq_true, not_true_eq_false, and_self, true_and, and_true, false_and, and_false, Decidable.not_not, stv1, stv2, stv3, stv4]
    rw [hσ1]
def oncB (n : Nat) (σ : IM) : IM := iw (iw (iw (icp (iw (iw σ 30 6 n) 30 7 (σ 1 0)) 2 32 0 0 6) 32 3 0) 32 5 0) 30 2 (((2 ^ n : Nat) : Int) - 1)
def onceF (n : Nat) (w : Nat → Nat) (σ : IM) : IM := iw (iw (each (oncB n σ) 0 n (onceR (oncB n σ) w)) 44 2 1000000) 44 3 1000000
theorem oncB_ne {n a b : Nat} {σ : IM} (h1 : ¬ (a = 30 ∧ (b = 2 ∨ b = 6 ∨ b = 7))) (h2 : ¬ (a = 32 ∧ b < 6)) : oncB n σ a b = σ a b := by
  unfold oncB
  rw [iw_ne (by omega), iw_ne (by omega), iw_ne (by omega), icp_ne (by omega), iw_ne (by omega), iw_ne (by omega)]
theorem onceX {σ τ : IM} {n : Nat} {w : Nat → Nat} (h : RX σ τ) (hn : n ≤ 6) (h0 : σ 44 0 = (n : Int)) (hw : ∀ k, k < n → ((w k : Nat) : Int) < τ 0 1 ∧ σ 46 k = (w k : Int)) : fX1_begin (enc σ) = some (mI 0, enc (onceF n w σ)) := by
  obtain ⟨⟨n1, n2, n3⟩, n4, n5, n6⟩ := h.now
  have B := brgX (σ := σ) (s := (n : Int)) (by omega)
  have c6 : ¬ (6 : Int) < (n : Int) := by omega
  have l6 : (Int32.ofNat 6) = mI 6 := rfl
  have sh : (mI 1 <<< (mI (n : Int) &&& mI 31)) = mI ((2 ^ n : Nat) : Int) := shl_all n (by omega)
  have g6 : iw (iw (icp (iw (iw σ 30 6 n) 30 7 (σ 1 0)) 2 32 0 0 6) 32 3 0) 32 5 0 30 6 = (n : Int) := by rw [iw_ne (by omega), iw_ne (by omega), icp_ne (by omega), iw_ne (by omega), iw_eq rfl rfl]
  have L : fX0_loadOnce (mI n) (enc σ) = some (mI 0, enc (each (oncB n σ) 0 n (onceR (oncB n σ) w))) := by
    unfold fX0_loadOnce
    simp (implicitDefEqProofs := false) (maxSteps := 1000000) (disch := omega) only [l6, c6, ↓mm_lt_s, ↓cl_in, ↓cl_wi, ↓cl_has, ↓cl_isP, mL_le, lit_n, litL_n, mL_mI, mL_neg, mm_cl_s, mI_lt, mI_le, mI_eq, enc_at, enc_wr, enc_cp, mI_neg, mI_add, mI_sub, mI_mul, mI_ix, mm_ck_ok, mm_nz_ok, mm_bo_c, mm_bo_m0, mm_bo_m1, b01, Int.toNat_natCast, Int.reduceToNat, Int.reduceNeg, Int.reduceSub, Int.reduceAdd, Int.reduceMul, Int.reduceLT, Int.reduceLE, Int.reduceEq, ↓reduceIte, not_true, not_false_eq_true, not_true_eq_false, and_self, true_and, and_true, false_and, and_false, Decidable.not_not, stv1, stv2, stv3, stv4]
    rw [B]
    generalize hfu : mm_fu = NF; have hNF : 4096 ≤ NF := by rw [← hfu]; exact Nat.le_refl _
    simp (implicitDefEqProofs := false) (maxSteps := 1000000) (disch := omega) only [g6, sh, ↓mm_lt_s, ↓cl_in, ↓cl_wi, ↓cl_has, ↓cl_isP, mL_le, lit_n, litL_n, mL_mI, mL_neg, mm_cl_s, mI_lt, mI_le, mI_eq, enc_at, enc_wr, enc_cp, mI_neg, mI_add, mI_sub, mI_mul, mI_ix, mm_ck_ok, mm_nz_ok, mm_bo_c, mm_bo_m0, mm_bo_m1, b01, Int.toNat_natCast, Int.reduceToNat, Int.reduceNeg, Int.reduceSub, Int.reduceAdd, Int.reduceMul, Int.reduceLT, Int.reduceLE, Int.reduceEq, ↓reduceIte, not_true, not_false_eq_true, not_true_eq_false, and_self, true_and, and_true, false_and, and_false, Decidable.not_not, stv1, stv2, stv3, stv4]
    have E := onceX_L (K := fun m7 => some (mI 0, m7)) (z := fun _ _ => none) (n := n) (w := w) hn n 0 NF (oncB n σ) (by omega) (by omega) (by
      unfold oncB
      rw [iw_ne (by omega)]
      exact g6) (fun p hp => by
      obtain ⟨w1, w2⟩ := hw p hp
      obtain ⟨f1, f2, f3, f4⟩ := h.folk (w p) w1
      have t2 := f1 2 (by omega)
      have t3 := f1 3 (by omega)
      have e2 : tolLo 2 = 0 ∧ tolHi 2 = 3 := ⟨rfl, rfl⟩
      have e3 : tolLo 3 = 1 ∧ tolHi 3 = 20 := ⟨rfl, rfl⟩
      rw [oncB_ne (by omega) (by omega), oncB_ne (by omega) (by omega), oncB_ne (by omega) (by omega)]
      exact ⟨by omega, w2, by omega, by omega⟩)
    rw [cast0] at E
    exact E
  unfold fX1_begin onceF
  simp (implicitDefEqProofs := false) (maxSteps := 1000000) (disch := omega) only [h0, ↓mm_lt_s, ↓cl_in, ↓cl_wi, ↓cl_has, ↓cl_isP, mL_le, lit_n, litL_n, mL_mI, mL_neg, mm_cl_s, mI_lt, mI_le, mI_eq, enc_at, enc_wr, enc_cp, mI_neg, mI_add, mI_sub, mI_mul, mI_ix, mm_ck_ok, mm_nz_ok, mm_bo_c, mm_bo_m0, mm_bo_m1, b01, Int.toNat_natCast, Int.reduceToNat, Int.reduceNeg, Int.reduceSub, Int.reduceAdd, Int.reduceMul, Int.reduceLT, Int.reduceLE, Int.reduceEq, ↓reduceIte, not_true, not_false_eq_true, not_true_eq_false, and_self, true_and, and_true, false_and, and_false, Decidable.not_not, stv1, stv2, stv3, stv4]
  rw [L]
  simp (implicitDefEqProofs := false) (maxSteps := 1000000) (disch := omega) only [↓mm_lt_s, ↓cl_in, ↓cl_wi, ↓cl_has, ↓cl_isP, mL_le, lit_n, litL_n, mL_mI, mL_neg, mm_cl_s, mI_lt, mI_le, mI_eq, enc_at, enc_wr, enc_cp, mI_neg, mI_add, mI_sub, mI_mul, mI_ix, mm_ck_ok, mm_nz_ok, mm_bo_c, mm_bo_m0, mm_bo_m1, b01, Int.toNat_natCast, Int.reduceToNat, Int.reduceNeg, Int.reduceSub, Int.reduceAdd, Int.reduceMul, Int.reduceLT, Int.reduceLE, Int.reduceEq, ↓reduceIte, not_true, not_false_eq_true, not_true_eq_false, and_self, true_and, and_true, false_and, and_false, Decidable.not_not, stv1, stv2, stv3, stv4]
/-- what class and reference keep through a search -/
def QL (σ τ : IM) (n : Nat) (w : Nat → Nat) : Prop := RX σ τ ∧ ((1 ≤ n ∧ n ≤ 6) ∧ σ 30 6 = (n : Int) ∧ σ 44 0 = (n : Int) ∧ τ 0 29 = (n : Int)) ∧ (σ 30 7 = τ 0 3 ∧ σ 30 2 = ((2 ^ n : Nat) : Int) - 1) ∧ (σ 32 0 = τ 2 0 ∧ σ 32 1 = τ 2 1 ∧ σ 32 2 = τ 2 2 ∧ σ 32 3 = 0 ∧ (0 ≤ σ 32 4 ∧ σ 32 4 ≤ 200) ∧ σ 32 5 = 0) ∧ ∀ k, k < n → ((w k : Nat) : Int) < τ 0 1 ∧ σ 46 k = (w k : Int) ∧ τ 19 k = (w k : Int) ∧ σ (34 + k) 1 = 0 ∧ σ (34 + k) 2 = pac (τ 1 (7 * w k + 2)) (τ 1 (7 * w k + 3)) ∧ σ (34 + k) 3 = 1 ∧ σ (34 + k) 4 = 0 ∧ σ (34 + k) 5 = (if τ 1 (7 * w k + 2) = 3 then 1 else 0)
theorem onceF_ne {n a b : Nat} {w : Nat → Nat} {σ : IM} (h : ¬ (34 ≤ a ∧ a < 34 + n)) (h1 : ¬ (a = 30 ∧ (b = 2 ∨ b = 6 ∨ b = 7))) (h2 : ¬ (a = 32 ∧ b < 6)) (h3 : ¬ (a = 44 ∧ (b = 2 ∨ b = 3))) : onceF n w σ a b = σ a b := by
  unfold onceF
  rw [iw_ne (by omega), iw_ne (by omega), each_ne (by omega), oncB_ne h1 h2]
theorem onceF_row {n p b : Nat} {w : Nat → Nat} {σ : IM} (hp : p < n) (hn : n ≤ 6) (hw : w p < 10) : onceF n w σ (34 + p) b = onceR σ w p b := by
  unfold onceF
  rw [iw_ne (by omega), iw_ne (by omega), each_in (by omega) hp]
  unfold onceR
  rw [oncB_ne (by omega) (by omega), oncB_ne (by omega) (by omega), oncB_ne (by omega) (by omega)]
theorem QL.mk0 {σ τ : IM} {n : Nat} {w : Nat → Nat} (h : RX σ τ) (hn : 1 ≤ n ∧ n ≤ 6) (h0 : σ 44 0 = (n : Int)) (h29 : τ 0 29 = (n : Int)) (hw : ∀ k, k < n → ((w k : Nat) : Int) < τ 0 1 ∧ σ 46 k = (w k : Int) ∧ τ 19 k = (w k : Int)) : QL (onceF n w σ) τ n w ∧ onceF n w σ 44 2 = 1000000 ∧ onceF n w σ 44 3 = 1000000 := by
  obtain ⟨⟨n1, n2, n3⟩, n4, n5, n6⟩ := h.now
  have l0 := h.law 0 (by omega)
  have l1 := h.law 1 (by omega)
  have l2 := h.law 2 (by omega)
  have l4 := h.law 4 (by omega)
  have lb := lawB 4
  have e32 : ∀ j, j < 6 → j ≠ 3 → j ≠ 5 → onceF n w σ 32 j = σ 2 j := fun j hj j3 j5 => by
    unfold onceF oncB
    rw [iw_ne (by omega), iw_ne (by omega), each_ne (by omega), iw_ne (by omega), iw_ne (by omega), iw_ne (by omega), icp_in (by omega), iw_ne (by omega), iw_ne (by omega), show 0 + (j - 0) = j by omega]
  have R : RX (onceF n w σ) τ := h.cong (fun k j hk => by
    unfold keepX at hk
    exact onceF_ne (by omega) (by omega) (by omega) (by omega)) (fun _ _ _ => rfl)
  refine ⟨⟨R, ⟨hn, ?_, ?_, h29⟩, ⟨?_, ?_⟩, ⟨?_, ?_, ?_, ?_, ?_, ?_⟩, fun k hk => ?_⟩, ?_, ?_⟩
  · unfold onceF oncB
    rw [iw_ne (by omega), iw_ne (by omega), each_ne (by omega), iw_ne (by omega), iw_ne (by omega), iw_ne (by omega), icp_ne (by omega), iw_ne (by omega), iw_eq rfl rfl]
  · rw [onceF_ne (by omega) (by omega) (by omega) (by omega)]; exact h0
  · unfold onceF oncB
    rw [iw_ne (by omega), iw_ne (by omega), each_ne (by omega), iw_ne (by omega), iw_ne (by omega), iw_ne (by omega), icp_ne (by omega), iw_eq rfl rfl]
    exact n1
  · unfold onceF oncB
    rw [iw_ne (by omega), iw_ne (by omega), each_ne (by omega), iw_eq rfl rfl]
  · rw [e32 0 (by omega) (by omega) (by omega)]; exact l0.1
  · rw [e32 1 (by omega) (by omega) (by omega)]; exact l1.1
  · rw [e32 2 (by omega) (by omega) (by omega)]; exact l2.1
  · unfold onceF oncB
    rw [iw_ne (by omega), iw_ne (by omega), each_ne (by omega), iw_ne (by omega), iw_ne (by omega), iw_eq rfl rfl]
  · rw [e32 4 (by omega) (by omega) (by omega)]; omega
  · unfold onceF oncB
    rw [iw_ne (by omega), iw_ne (by omega), each_ne (by omega), iw_ne (by omega), iw_eq rfl rfl]
  · obtain ⟨w1, w2, w3⟩ := hw k hk
    obtain ⟨f1, f2, f3, f4⟩ := h.folk (w k) w1
    have t2 := (f1 2 (by omega)).1
    have t3 := (f1 3 (by omega)).1
    have wk : w k < 10 := by omega
    refine ⟨w1, ?_, w3, ?_, ?_, ?_, ?_, ?_⟩
    · rw [onceF_ne (by omega) (by omega) (by omega) (by omega)]; exact w2
    · rw [onceF_row hk hn.2 wk]; rfl
    · rw [onceF_row hk hn.2 wk, ← t2, ← t3]; rfl
    · rw [onceF_row hk hn.2 wk]; rfl
    · rw [onceF_row hk hn.2 wk]; rfl
    · rw [onceF_row hk hn.2 wk, ← t2]; rfl
  · unfold onceF
    rw [iw_ne (by omega), iw_eq rfl rfl]
  · unfold onceF
    rw [iw_eq rfl rfl]
