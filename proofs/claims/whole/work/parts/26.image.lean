theorem becK_s (σ : IM) : fX3_becomeK (enc σ) = some (mI 0, enc (irow (icp (iw (iw σ 14 0 (σ 1 0)) 14 1 (σ 1 1)) 2 15 0 0 6) 17 4 0 10)) := by
  unfold fX3_becomeK
  generalize hfu : mm_fu = NF; have hNF : 4096 ≤ NF := by rw [← hfu]; exact Nat.le_refl _
  simp (implicitDefEqProofs := false) (maxSteps := 1000000) (disch := omega) only [mm_ac_ok, ↓mm_lt_s, ↓cl_in, ↓cl_wi, ↓cl_has, ↓cl_isP, mL_le, lit_n, litL_n, mL_mI, mL_neg, mm_cl_s, mI_lt, mI_le, mI_eq, enc_at, enc_wr, enc_cp, mI_neg, mI_add, mI_sub, mI_mul, mI_ix, mm_ck_ok, mm_nz_ok, mm_bo_c, mm_bo_m0, mm_bo_m1, b01, Int.toNat_natCast, Int.reduceToNat, Int.reduceNeg, Int.reduceSub, Int.reduceAdd, Int.reduceMul, Int.reduceLT, Int.reduceLE, Int.reduceEq, ↓reduceIte, not_true, not_false_eq_true, not_true_eq_false, and_self, true_and, and_true, false_and, and_false, Decidable.not_not, stv1, stv2, stv3, stv4]
  rw [show mI 0 = mI ((0 : Nat) : Int) from rfl, becK_L 10 0 NF _ (by omega) (by omega), iw_ne (by omega)]
theorem becN_s (σ : IM) : fX3_becomeN (enc σ) = some (mI 0, enc (irow (icp (iw (iw σ 1 0 (σ 14 0)) 1 1 (σ 14 1)) 15 2 0 0 6) 4 17 0 10)) := by
  unfold fX3_becomeN
  generalize hfu : mm_fu = NF; have hNF : 4096 ≤ NF := by rw [← hfu]; exact Nat.le_refl _
  simp (implicitDefEqProofs := false) (maxSteps := 1000000) (disch := omega) only [mm_ac_ok, ↓mm_lt_s, ↓cl_in, ↓cl_wi, ↓cl_has, ↓cl_isP, mL_le, lit_n, litL_n, mL_mI, mL_neg, mm_cl_s, mI_lt, mI_le, mI_eq, enc_at, enc_wr, enc_cp, mI_neg, mI_add, mI_sub, mI_mul, mI_ix, mm_ck_ok, mm_nz_ok, mm_bo_c, mm_bo_m0, mm_bo_m1, b01, Int.toNat_natCast, Int.reduceToNat, Int.reduceNeg, Int.reduceSub, Int.reduceAdd, Int.reduceMul, Int.reduceLT, Int.reduceLE, Int.reduceEq, ↓reduceIte, not_true, not_false_eq_true, not_true_eq_false, and_self, true_and, and_true, false_and, and_false, Decidable.not_not, stv1, stv2, stv3, stv4]
  rw [show mI 0 = mI ((0 : Nat) : Int) from rfl, becN_L 10 0 NF _ (by omega) (by omega), iw_ne (by omega)]
theorem icp_ne {σ : IM} {k0 k1 sp dp n a b : Nat} (h : ¬ (a = k1 ∧ (dp ≤ b ∧ b < dp + n))) : icp σ k0 k1 sp dp n a b = σ a b := if_neg h
theorem icp_in {σ : IM} {k0 k1 sp dp n a b : Nat} (h : a = k1 ∧ (dp ≤ b ∧ b < dp + n)) : icp σ k0 k1 sp dp n a b = σ k0 (sp + (b - dp)) := if_pos h
theorem irow_ne {σ : IM} {q0 q1 lo hi a b : Nat} (h : ¬ ((q0 + lo ≤ a ∧ a < q0 + hi) ∧ b < 7)) : irow σ q0 q1 lo hi a b = σ a b := if_neg h
theorem irow_in {σ : IM} {q0 q1 lo hi a b : Nat} (h : (q0 + lo ≤ a ∧ a < q0 + hi) ∧ b < 7) : irow σ q0 q1 lo hi a b = σ (q1 + (a - q0)) b := if_pos h
theorem q_image {σ τ : IM} (h : RX σ τ) : Like (fX6_image (enc σ)) (fX7_image (enc τ)) := by
  unfold fX6_image fX7_image
  rw [becK_s]
  generalize hfu : mm_fu = NF; have hNF : 4096 ≤ NF := by rw [← hfu]; exact Nat.le_refl _
  simp (implicitDefEqProofs := false) (maxSteps := 1000000) (disch := omega) only [↓mm_lt_s, ↓cl_in, ↓cl_wi, ↓cl_has, ↓cl_isP, mL_le, lit_n, litL_n, mL_mI, mL_neg, mm_cl_s, mI_lt, mI_le, mI_eq, enc_at, enc_wr, enc_cp, mI_neg, mI_add, mI_sub, mI_mul, mI_ix, mm_ck_ok, mm_nz_ok, mm_bo_c, mm_bo_m0, mm_bo_m1, b01, Int.toNat_natCast, Int.reduceToNat, Int.reduceNeg, Int.reduceSub, Int.reduceAdd, Int.reduceMul, Int.reduceLT, Int.reduceLE, Int.reduceEq, ↓reduceIte, not_true, not_false_eq_true, not_true_eq_false, and_self, true_and, and_true, false_and, and_false, Decidable.not_not, stv1, stv2, stv3, stv4]
  rw [show mI 0 = mI ((0 : Nat) : Int) from rfl, imgM_L2 70 0 NF _ (by omega) (by omega)]
  rw [imgM_L28 6 0 NF _ (by omega) (by omega)]
  simp (implicitDefEqProofs := false) (maxSteps := 1000000) (disch := omega) only [↓mm_lt_s, ↓cl_in, ↓cl_wi, ↓cl_has, ↓cl_isP, mL_le, lit_n, litL_n, mL_mI, mL_neg, mm_cl_s, mI_lt, mI_le, mI_eq, enc_at, enc_wr, enc_cp, mI_neg, mI_add, mI_sub, mI_mul, mI_ix, mm_ck_ok, mm_nz_ok, mm_bo_c, mm_bo_m0, mm_bo_m1, b01, Int.toNat_natCast, Int.reduceToNat, Int.reduceNeg, Int.reduceSub, Int.reduceAdd, Int.reduceMul, Int.reduceLT, Int.reduceLE, Int.reduceEq, ↓reduceIte, not_true, not_false_eq_true, not_true_eq_false, and_self, true_and, and_true, false_and, and_false, Decidable.not_not, stv1, stv2, stv3, stv4]
  obtain ⟨⟨b1, b2, b3, b4⟩, a2, a3, a4⟩ := h
  refine Like.mk rfl rfl ?_
  generalize hσ : iw (irow (icp (iw (iw σ 14 0 (σ 1 0)) 14 1 (σ 1 1)) 2 15 0 0 6) 17 4 0 10) 0 2 1 = σ'
  have X0 : σ' 0 2 = 1 := by rw [← hσ, iw_eq rfl rfl]
  have X1 : ∀ k j, k ≠ 0 → k < 14 → σ' k j = σ k j := fun k j h1 h2 => by
    rw [← hσ, iw_ne (by omega), irow_ne (by omega), icp_ne (by omega), iw_ne (by omega), iw_ne (by omega)]
  have X2 : ∀ k j, 27 ≤ k → σ' k j = σ k j := fun k j h1 => by
    rw [← hσ, iw_ne (by omega), irow_ne (by omega), icp_ne (by omega), iw_ne (by omega), iw_ne (by omega)]
  have X3 : σ' 14 0 = σ 1 0 := by
    rw [← hσ, iw_ne (by omega), irow_ne (by omega), icp_ne (by omega), iw_ne (by omega), iw_eq rfl rfl]
  have X4 : σ' 14 1 = σ 1 1 := by
    rw [← hσ, iw_ne (by omega), irow_ne (by omega), icp_ne (by omega), iw_eq rfl rfl]
  have X5 : ∀ i, i < 6 → σ' 15 i = σ 2 i := fun i hi => by
    rw [← hσ, iw_ne (by omega), irow_ne (by omega), icp_in (by omega), iw_ne (by omega), iw_ne (by omega)]
    congr 1; omega
  have X6 : ∀ p j, p < 10 → j < 7 → σ' (17 + p) j = σ (4 + p) j := fun p j hp hj => by
    rw [← hσ, iw_ne (by omega), irow_in (by omega), icp_ne (by omega), iw_ne (by omega), iw_ne (by omega)]
    congr 1; omega
  clear hσ
  generalize hT : ifl (ifl τ 23 0 70 (τ 1)) 24 0 6 (ifl τ 23 0 70 (τ 1) 2) = τ1
  have T1 : ∀ k j, k < 23 → τ1 k j = τ k j := fun k j hk => by rw [← hT, ifl_ne (by omega), ifl_ne (by omega)]
  have T2 : ∀ k j, 25 ≤ k → τ1 k j = τ k j := fun k j hk => by rw [← hT, ifl_ne (by omega), ifl_ne (by omega)]
  have T3 : ∀ j, j < 70 → τ1 23 j = τ 1 j := fun j hj => by rw [← hT, ifl_ne (by omega), ifl_in (by omega) hj]
  have T4 : ∀ j, j < 6 → τ1 24 j = τ 2 j := fun j hj => by rw [← hT, ifl_in (by omega) hj, ifl_ne (by omega)]
  clear hT
  generalize hU : iw (iw (iw τ1 0 38 (τ1 0 1)) 0 39 (iw τ1 0 38 (τ1 0 1) 0 3)) 0 35 1 = τ'
  have U0 : ∀ k j, k ≠ 0 → τ' k j = τ1 k j := fun k j hk => by rw [← hU, iw_ne (by omega), iw_ne (by omega), iw_ne (by omega)]
  have U1 : ∀ j, j < 35 → τ' 0 j = τ 0 j := fun j hj => by rw [← hU, iw_ne (by omega), iw_ne (by omega), iw_ne (by omega), T1 _ _ (by omega)]
  have U2 : τ' 0 35 = 1 := by rw [← hU, iw_eq rfl rfl]
  have U3 : τ' 0 38 = τ 0 1 := by rw [← hU, iw_ne (by omega), iw_ne (by omega), iw_eq rfl rfl, T1 _ _ (by omega)]
  have U4 : τ' 0 39 = τ 0 3 := by rw [← hU, iw_ne (by omega), iw_eq rfl rfl, iw_ne (by omega), T1 _ _ (by omega)]
  clear hU
  have Z : SRel σ τ 1 (τ 0 3) (τ 0 1) 2 1 := ⟨b1, b2, b3, b4⟩
  refine ⟨Z.cong (U1 3 (by omega)) (U1 1 (by omega)) (fun j => X1 _ _ (by omega) (by omega)) (fun j => X1 _ _ (by omega) (by omega)) (fun p j hp => X1 _ _ (by omega) (by omega)) (fun i => by rw [U0 _ _ (by omega), T1 _ _ (by omega)]) (fun i => by rw [U0 _ _ (by omega), T1 _ _ (by omega)]), ⟨by rw [X0, U2], Or.inr ⟨U2, ?_⟩⟩, a3.cong (X2 _ _ (by omega)) (fun i => X2 _ _ (by omega)) (U1 5 (by omega)) (fun i => by rw [U0 _ _ (by omega), T1 _ _ (by omega)]), fun s hs => (a4 s hs).cong (fun j => X2 _ _ (by omega)) (fun j => X2 _ _ (by omega)) (by rw [U0 _ _ (by omega), T2 _ _ (by omega)]) (by rw [U0 _ _ (by omega), T2 _ _ (by omega)]) (fun i _ => by rw [U0 _ _ (by omega), T2 _ _ (by omega)])⟩
  rw [U3, U4]
  refine ⟨by rw [X3]; exact b1, by rw [X4]; exact b2, fun i hi => ?_, fun p hp => ?_⟩
  · rw [show 14 + 1 = 15 from rfl, X5 i hi, U0 _ _ (by omega), T4 i hi]; exact b3 i hi
  · have hp10 : p < 10 := by omega
    obtain ⟨d1, d2, d3⟩ := b4 p hp
    refine ⟨fun j hj => ?_, ?_, ?_⟩
    · rw [show 14 + 3 + p = 17 + p by omega, X6 p j hp10 (by omega), U0 _ _ (by omega), T3 _ (by omega)]; exact d1 j hj
    · rw [show 14 + 3 + p = 17 + p by omega, X6 p 6 hp10 (by omega), U0 _ _ (by omega), T3 _ (by omega)]; exact d2
    · rw [show 14 + 3 + p = 17 + p by omega, X6 p 6 hp10 (by omega)]; exact d3
theorem q_restore {σ τ : IM} (h : RX σ τ) : Like (fX6_restore (enc σ)) (fX7_restore (enc τ)) := by
  obtain ⟨a1, ⟨k1, k2⟩, a3, a4⟩ := id h
  unfold fX6_restore fX7_restore
  rw [becN_s]
  generalize hfu : mm_fu = NF; have hNF : 4096 ≤ NF := by rw [← hfu]; exact Nat.le_refl _
  rcases k2 with k2 | ⟨k2, b1, b2, b3, b4⟩
  · simp (implicitDefEqProofs := false) (maxSteps := 1000000) (disch := omega) only [k1, k2, ↓mm_lt_s, ↓cl_in, ↓cl_wi, ↓cl_has, ↓cl_isP, mL_le, lit_n, litL_n, mL_mI, mL_neg, mm_cl_s, mI_lt, mI_le, mI_eq, enc_at, enc_wr, enc_cp, mI_neg, mI_add, mI_sub, mI_mul, mI_ix, mm_ck_ok, mm_nz_ok, mm_bo_c, mm_bo_m0, mm_bo_m1, b01, Int.toNat_natCast, Int.reduceToNat, Int.reduceNeg, Int.reduceSub, Int.reduceAdd, Int.reduceMul, Int.reduceLT, Int.reduceLE, Int.reduceEq, ↓reduceIte, not_true, not_false_eq_true, not_true_eq_false, and_self, true_and, and_true, false_and, and_false, Decidable.not_not, stv1, stv2, stv3, stv4]
    exact Like.mk rfl rfl h
  · simp (implicitDefEqProofs := false) (maxSteps := 1000000) (disch := omega) only [k1, k2, ↓mm_lt_s, ↓cl_in, ↓cl_wi, ↓cl_has, ↓cl_isP, mL_le, lit_n, litL_n, mL_mI, mL_neg, mm_cl_s, mI_lt, mI_le, mI_eq, enc_at, enc_wr, enc_cp, mI_neg, mI_add, mI_sub, mI_mul, mI_ix, mm_ck_ok, mm_nz_ok, mm_bo_c, mm_bo_m0, mm_bo_m1, b01, Int.toNat_natCast, Int.reduceToNat, Int.reduceNeg, Int.reduceSub, Int.reduceAdd, Int.reduceMul, Int.reduceLT, Int.reduceLE, Int.reduceEq, ↓reduceIte, not_true, not_false_eq_true, not_true_eq_false, and_self, true_and, and_true, false_and, and_false, Decidable.not_not, stv1, stv2, stv3, stv4]
    rw [show mI 0 = mI ((0 : Nat) : Int) from rfl, resM_L12 70 0 NF _ (by omega) (by omega)]
    rw [resM_L38 6 0 NF _ (by omega) (by omega)]
    simp (implicitDefEqProofs := false) (maxSteps := 1000000) (disch := omega) only [↓mm_lt_s, ↓cl_in, ↓cl_wi, ↓cl_has, ↓cl_isP, mL_le, lit_n, litL_n, mL_mI, mL_neg, mm_cl_s, mI_lt, mI_le, mI_eq, enc_at, enc_wr, enc_cp, mI_neg, mI_add, mI_sub, mI_mul, mI_ix, mm_ck_ok, mm_nz_ok, mm_bo_c, mm_bo_m0, mm_bo_m1, b01, Int.toNat_natCast, Int.reduceToNat, Int.reduceNeg, Int.reduceSub, Int.reduceAdd, Int.reduceMul, Int.reduceLT, Int.reduceLE, Int.reduceEq, ↓reduceIte, not_true, not_false_eq_true, not_true_eq_false, and_self, true_and, and_true, false_and, and_false, Decidable.not_not, stv1, stv2, stv3, stv4]
    refine Like.mk rfl rfl ?_
    generalize hσ : irow (icp (iw (iw σ 1 0 (σ 14 0)) 1 1 (σ 14 1)) 15 2 0 0 6) 4 17 0 10 = σ'
    have X1 : ∀ k j, k = 0 ∨ 14 ≤ k → σ' k j = σ k j := fun k j h1 => by
      rw [← hσ, irow_ne (by omega), icp_ne (by omega), iw_ne (by omega), iw_ne (by omega)]
    have X3 : σ' 1 0 = σ 14 0 := by
      rw [← hσ, irow_ne (by omega), icp_ne (by omega), iw_ne (by omega), iw_eq rfl rfl]
    have X4 : σ' 1 1 = σ 14 1 := by
      rw [← hσ, irow_ne (by omega), icp_ne (by omega), iw_eq rfl rfl]
    have X5 : ∀ i, i < 6 → σ' 2 i = σ 15 i := fun i hi => by
      rw [← hσ, irow_ne (by omega), icp_in (by omega), iw_ne (by omega), iw_ne (by omega)]
      congr 1; omega
    have X6 : ∀ p j, p < 10 → j < 7 → σ' (4 + p) j = σ (17 + p) j := fun p j hp hj => by
      rw [← hσ, irow_in (by omega), icp_ne (by omega), iw_ne (by omega), iw_ne (by omega)]
      congr 1; omega
    clear hσ
    generalize hT : ifl (ifl τ 1 0 70 (τ 23)) 2 0 6 (ifl τ 1 0 70 (τ 23) 24) = τ1
    have T1 : ∀ k j, k = 0 ∨ 3 ≤ k → τ1 k j = τ k j := fun k j hk => by rw [← hT, ifl_ne (by omega), ifl_ne (by omega)]
    have T3 : ∀ j, j < 70 → τ1 1 j = τ 23 j := fun j hj => by rw [← hT, ifl_ne (by omega), ifl_in (by omega) hj]
    have T4 : ∀ j, j < 6 → τ1 2 j = τ 24 j := fun j hj => by rw [← hT, ifl_in (by omega) hj, ifl_ne (by omega)]
    clear hT
    generalize hU : iw (iw τ1 0 1 (τ1 0 38)) 0 3 (iw τ1 0 1 (τ1 0 38) 0 39) = τ'
    have U0 : ∀ k j, k ≠ 0 → τ' k j = τ1 k j := fun k j hk => by rw [← hU, iw_ne (by omega), iw_ne (by omega)]
    have U1 : ∀ j, 4 ≤ j → τ' 0 j = τ 0 j := fun j hj => by rw [← hU, iw_ne (by omega), iw_ne (by omega), T1 _ _ (by omega)]
    have U3 : τ' 0 1 = τ 0 38 := by rw [← hU, iw_ne (by omega), iw_eq rfl rfl, T1 _ _ (by omega)]
    have U4 : τ' 0 3 = τ 0 39 := by rw [← hU, iw_eq rfl rfl, iw_ne (by omega), T1 _ _ (by omega)]
    clear hU
    have KR : KRel σ τ := ⟨k1, Or.inr ⟨k2, b1, b2, b3, b4⟩⟩
    refine ⟨?_, KR.cong (X1 _ _ (by omega)) (U1 35 (by omega)) (U1 38 (by omega)) (U1 39 (by omega)) (fun j => X1 _ _ (by omega)) (fun j => X1 _ _ (by omega)) (fun p j hp => X1 _ _ (by omega)) (fun i => by rw [U0 _ _ (by omega), T1 _ _ (by omega)]) (fun i => by rw [U0 _ _ (by omega), T1 _ _ (by omega)]), a3.cong (X1 _ _ (by omega)) (fun i => X1 _ _ (by omega)) (U1 5 (by omega)) (fun i => by rw [U0 _ _ (by omega), T1 _ _ (by omega)]), fun s hs => (a4 s hs).cong (fun j => X1 _ _ (by omega)) (fun j => X1 _ _ (by omega)) (by rw [U0 _ _ (by omega), T1 _ _ (by omega)]) (by rw [U0 _ _ (by omega), T1 _ _ (by omega)]) (fun i _ => by rw [U0 _ _ (by omega), T1 _ _ (by omega)])⟩
    rw [U3, U4]
    refine ⟨by rw [X3]; exact b1, by rw [X4]; exact b2, fun i hi => ?_, fun p hp => ?_⟩
    · rw [show 1 + 1 = 2 from rfl, X5 i hi, U0 _ _ (by omega), T4 i hi]; exact b3 i hi
    · have hp10 : p < 10 := by omega
      obtain ⟨d1, d2, d3⟩ := b4 p hp
      refine ⟨fun j hj => ?_, ?_, ?_⟩
      · rw [show 1 + 3 + p = 4 + p by omega, X6 p j hp10 (by omega), U0 _ _ (by omega), T3 _ (by omega)]; exact d1 j hj
      · rw [show 1 + 3 + p = 4 + p by omega, X6 p 6 hp10 (by omega), U0 _ _ (by omega), T3 _ (by omega)]; exact d2
      · rw [show 1 + 3 + p = 4 + p by omega, X6 p 6 hp10 (by omega)]; exact d3
/-! how many -/
def sumN (f : Nat → Int) : Nat → Int
  | 0 => 0
  | n + 1 => sumN f n + f n
theorem cntX_L {K : Int32 → Int32 → Mm → Aa} {z : Int32 → Int32 → Int32 → Mm → Aa} {σ : IM} {m : Nat} (hm : σ 1 1 = (m : Int)) (hm10 : m ≤ 10) (hb : ∀ p, p < m → 0 ≤ σ (4 + p) 1 ∧ σ (4 + p) 1 ≤ 1) : ∀ (d i n : Nat) (x y : Int), i + d = m → d < n → mm_lk z (fX6_count_L30 K) n (mI x) (mI y) (mI i) (enc σ) = K (mI (x + (sumN (fun p => σ (4 + p) 4) m - sumN (fun p => σ (4 + p) 4) i))) (mI (y + (sumN (fun p => if σ (4 + p) 1 = 0 then 1 else 0) m - sumN (fun p => if σ (4 + p) 1 = 0 then 1 else 0) i))) (enc σ)
  | d, i, 0, x, y, _, h => absurd h (Nat.not_lt_zero d)
  | 0, i, n + 1, x, y, h, _ => by
    rw [mm_lk_s, fX6_count_L30]
    simp (implicitDefEqProofs := false) (maxSteps := 1000000) (disch := omega) only [↓mm_lt_s, ↓cl_in, ↓cl_wi, ↓cl_has, ↓cl_isP, mL_le, lit_n, litL_n, mL_mI, mL_neg, mm_cl_s, mI_lt, mI_le, mI_eq, enc_at, enc_wr, enc_cp, mI_neg, mI_add, mI_sub, mI_mul, mI_ix, mm_ck_ok, mm_nz_ok, mm_bo_c, mm_bo_m0, mm_bo_m1, b01, Int.toNat_natCast, Int.reduceToNat, Int.reduceNeg, Int.reduceSub, Int.reduceAdd, Int.reduceMul, Int.reduceLT, Int.reduceLE, Int.reduceEq, ↓reduceIte, not_true, not_false_eq_true, not_true_eq_false, and_self, true_and, and_true, false_and, and_false, Decidable.not_not, stv1, stv2, stv3, stv4]
    repeat (first | rw [if_pos (by omega)] | rw [if_neg (by omega)])
    have : i = m := by omega
    subst this
    rw [Int.sub_self, Int.sub_self, Int.add_zero, Int.add_zero]
  | d + 1, i, n + 1, x, y, h, h2 => by
    have b := hb i (by omega)
    rw [mm_lk_s, fX6_count_L30]
    simp (implicitDefEqProofs := false) (maxSteps := 1000000) (disch := omega) only [cast_s, ↓mm_lt_s, ↓cl_in, ↓cl_wi, ↓cl_has, ↓cl_isP, mL_le, lit_n, litL_n, mL_mI, mL_neg, mm_cl_s, mI_lt, mI_le, mI_eq, enc_at, enc_wr, enc_cp, mI_neg, mI_add, mI_sub, mI_mul, mI_ix, mm_ck_ok, mm_nz_ok, mm_bo_c, mm_bo_m0, mm_bo_m1, b01, Int.toNat_natCast, Int.reduceToNat, Int.reduceNeg, Int.reduceSub, Int.reduceAdd, Int.reduceMul, Int.reduceLT, Int.reduceLE, Int.reduceEq, ↓reduceIte, not_true, not_false_eq_true, not_true_eq_false, and_self, true_and, and_true, false_and, and_false, Decidable.not_not, stv1, stv2, stv3, stv4]
    by_cases c : σ (4 + i) 1 = 0
    · repeat (first | rw [if_pos (by omega)] | rw [if_neg (by omega)])
      rw [cntX_L hm hm10 hb d (i + 1) n _ _ (by omega) (by omega)]
      simp only [sumN, if_pos c]
      congr 2 <;> omega
    · repeat (first | rw [if_pos (by omega)] | rw [if_neg (by omega)])
      rw [cntX_L hm hm10 hb d (i + 1) n _ _ (by omega) (by omega)]
      simp only [sumN, if_neg c]
      congr 2 <;> omega
theorem cntM_L {K : Int32 → Int32 → Mm → Aa} {z : Int32 → Int32 → Int32 → Mm → Aa} {τ : IM} {m : Nat} (hm : τ 0 1 = (m : Int)) (hm10 : m ≤ 10) (hb : ∀ p, p < m → 0 ≤ τ 1 (7 * p + 1) ∧ τ 1 (7 * p + 1) ≤ 1) : ∀ (d i n : Nat) (x y : Int), i + d = m → d < n → mm_lk z (fX7_count_L7 K) n (mI x) (mI y) (mI i) (enc τ) = K (mI (x + (sumN (fun p => τ 1 (7 * p + 4)) m - sumN (fun p => τ 1 (7 * p + 4)) i))) (mI (y + (sumN (fun p => if τ 1 (7 * p + 1) = 0 then 1 else 0) m - sumN (fun p => if τ 1 (7 * p + 1) = 0 then 1 else 0) i))) (enc τ)
  | d, i, 0, x, y, _, h => absurd h (Nat.not_lt_zero d)
  | 0, i, n + 1, x, y, h, _ => by
    rw [mm_lk_s, fX7_count_L7]
    simp (implicitDefEqProofs := false) (maxSteps := 1000000) (disch := omega) only [↓mm_lt_s, ↓cl_in, ↓cl_wi, ↓cl_has, ↓cl_isP, mL_le, lit_n, litL_n, mL_mI, mL_neg, mm_cl_s, mI_lt, mI_le, mI_eq, enc_at, enc_wr, enc_cp, mI_neg, mI_add, mI_sub, mI_mul, mI_ix, mm_ck_ok, mm_nz_ok, mm_bo_c, mm_bo_m0, mm_bo_m1, b01, Int.toNat_natCast, Int.reduceToNat, Int.reduceNeg, Int.reduceSub, Int.reduceAdd, Int.reduceMul, Int.reduceLT, Int.reduceLE, Int.reduceEq, ↓reduceIte, not_true, not_false_eq_true, not_true_eq_false, and_self, true_and, and_true, false_and, and_false, Decidable.not_not, stv1, stv2, stv3, stv4]
    repeat (first | rw [if_pos (by omega)] | rw [if_neg (by omega)])
    have : i = m := by omega
    subst this
    rw [Int.sub_self, Int.sub_self, Int.add_zero, Int.add_zero]
  | d + 1, i, n + 1, x, y, h, h2 => by
    have b := hb i (by omega)
    have e4 : (7 * (i : Int) + 4).toNat = 7 * i + 4 := by omega
    have e1 : (7 * (i : Int) + 1).toNat = 7 * i + 1 := by omega
    rw [mm_lk_s, fX7_count_L7]
    simp (implicitDefEqProofs := false) (maxSteps := 1000000) (disch := omega) only [cast_s, e4, e1, ↓mm_lt_s, ↓cl_in, ↓cl_wi, ↓cl_has, ↓cl_isP, mL_le, lit_n, litL_n, mL_mI, mL_neg, mm_cl_s, mI_lt, mI_le, mI_eq, enc_at, enc_wr, enc_cp, mI_neg, mI_add, mI_sub, mI_mul, mI_ix, mm_ck_ok, mm_nz_ok, mm_bo_c, mm_bo_m0, mm_bo_m1, b01, Int.toNat_natCast, Int.reduceToNat, Int.reduceNeg, Int.reduceSub, Int.reduceAdd, Int.reduceMul, Int.reduceLT, Int.reduceLE, Int.reduceEq, ↓reduceIte, not_true, not_false_eq_true, not_true_eq_false, and_self, true_and, and_true, false_and, and_false, Decidable.not_not, stv1, stv2, stv3, stv4]
    by_cases c : τ 1 (7 * i + 1) = 0
    · repeat (first | rw [if_pos (by omega)] | rw [if_neg (by omega)])
      rw [cntM_L hm hm10 hb d (i + 1) n _ _ (by omega) (by omega)]
      simp only [sumN, if_pos c]
      congr 2 <;> omega
    · repeat (first | rw [if_pos (by omega)] | rw [if_neg (by omega)])
      rw [cntM_L hm hm10 hb d (i + 1) n _ _ (by omega) (by omega)]
      simp only [sumN, if_neg c]
      congr 2 <;> omega
theorem sumN_cong {f g : Nat → Int} : ∀ {n : Nat}, (∀ p, p < n → f p = g p) → sumN f n = sumN g n
  | 0, _ => rfl
  | n + 1, h => by rw [sumN, sumN, sumN_cong (fun p hp => h p (by omega)), h n (by omega)]
theorem q_count (a : Int) (ha : I32 a) {σ τ : IM} (h : RX σ τ) : Like (fX6_count (mI a) (enc σ)) (fX7_count (mI a) (enc τ)) := by
  obtain ⟨⟨n1, n2, n3⟩, n4, n5, n6⟩ := h.now
  obtain ⟨m, hm⟩ := Int.eq_ofNat_of_zero_le n5
  have hm10 : m ≤ 10 := by omega
  have hf : ∀ p, p < m → (σ (4 + p) 1 = τ 1 (7 * p + 1) ∧ 0 ≤ τ 1 (7 * p + 1) ∧ τ 1 (7 * p + 1) ≤ 1) ∧ σ (4 + p) 4 = τ 1 (7 * p + 4) := fun p hp => by
    obtain ⟨f1, -⟩ := h.folk p (by omega)
    exact ⟨f1 1 (by omega), (f1 4 (by omega)).1⟩
  have s1 : sumN (fun p => σ (4 + p) 4) m = sumN (fun p => τ 1 (7 * p + 4)) m := sumN_cong fun p hp => (hf p hp).2
  have s2 : sumN (fun p => if σ (4 + p) 1 = 0 then (1 : Int) else 0) m = sumN (fun p => if τ 1 (7 * p + 1) = 0 then (1 : Int) else 0) m := sumN_cong fun p hp => by rw [(hf p hp).1.1]
  unfold fX6_count fX7_count
  generalize hfu : mm_fu = NF; have hNF : 4096 ≤ NF := by rw [← hfu]; exact Nat.le_refl _
  simp (implicitDefEqProofs := false) (maxSteps := 1000000) (disch := omega) only [↓mm_lt_s, ↓cl_in, ↓cl_wi, ↓cl_has, ↓cl_isP, mL_le, lit_n, litL_n, mL_mI, mL_neg, mm_cl_s, mI_lt, mI_le, mI_eq, enc_at, enc_wr, enc_cp, mI_neg, mI_add, mI_sub, mI_mul, mI_ix, mm_ck_ok, mm_nz_ok, mm_bo_c, mm_bo_m0, mm_bo_m1, b01, Int.toNat_natCast, Int.reduceToNat, Int.reduceNeg, Int.reduceSub, Int.reduceAdd, Int.reduceMul, Int.reduceLT, Int.reduceLE, Int.reduceEq, ↓reduceIte, not_true, not_false_eq_true, not_true_eq_false, and_self, true_and, and_true, false_and, and_false, Decidable.not_not, stv1, stv2, stv3, stv4]
  rw [show mI 0 = mI ((0 : Nat) : Int) from rfl, cntM_L hm hm10 (fun p hp => (hf p hp).1.2) m 0 NF _ _ (by omega) (by omega), cntX_L (n4.trans hm) hm10 (fun p hp => by rw [(hf p hp).1.1]; exact (hf p hp).1.2) m 0 NF _ _ (by omega) (by omega), s1, s2]
  simp (implicitDefEqProofs := false) (maxSteps := 1000000) (disch := omega) only [n4, ↓mm_lt_s, ↓cl_in, ↓cl_wi, ↓cl_has, ↓cl_isP, mL_le, lit_n, litL_n, mL_mI, mL_neg, mm_cl_s, mI_lt, mI_le, mI_eq, enc_at, enc_wr, enc_cp, mI_neg, mI_add, mI_sub, mI_mul, mI_ix, mm_ck_ok, mm_nz_ok, mm_bo_c, mm_bo_m0, mm_bo_m1, b01, Int.toNat_natCast, Int.reduceToNat, Int.reduceNeg, Int.reduceSub, Int.reduceAdd, Int.reduceMul, Int.reduceLT, Int.reduceLE, Int.reduceEq, ↓reduceIte, not_true, not_false_eq_true, not_true_eq_false, and_self, true_and, and_true, false_and, and_false, Decidable.not_not, stv1, stv2, stv3, stv4]
  by_cases c1 : a = 0
  · repeat (first | rw [if_pos (by omega)] | rw [if_neg (by omega)])
    exact Like.mk rfl rfl h
  · by_cases c2 : a = 1
    · repeat (first | rw [if_pos (by omega)] | rw [if_neg (by omega)])
      exact Like.mk rfl rfl h
    · by_cases c3 : a = 2
      · repeat (first | rw [if_pos (by omega)] | rw [if_neg (by omega)])
        exact Like.mk rfl rfl h
      · by_cases c4 : a < 0
        · repeat (first | rw [if_pos (by omega)] | rw [if_neg (by omega)])
          exact Like.mk rfl rfl h
        · repeat (first | rw [if_pos (by omega)] | rw [if_neg (by omega)])
          exact Like.mk rfl rfl h
