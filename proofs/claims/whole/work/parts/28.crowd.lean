def addXn (v : Nat → Nat → Int) : Nat → Nat → Nat → IM → IM
  | 0, _, _, σ => σ
  | d + 1, i, m, σ => addXn v d (i + 1) (m + 1) (addX σ m (v i))
def addMn (v : Nat → Nat → Int) : Nat → Nat → Nat → IM → IM
  | 0, _, _, τ => τ
  | d + 1, i, m, τ => addMn v d (i + 1) (m + 1) (addM τ m (v i))
theorem addX_1 {σ : IM} {m : Nat} {v : Nat → Int} : addX σ m v 1 1 = ((m + 1 : Nat) : Int) := by
  rw [addX, if_neg (by omega), if_pos ⟨rfl, rfl⟩]; omega
theorem addM_1 {τ : IM} {m : Nat} {v : Nat → Int} : addM τ m v 0 1 = ((m + 1 : Nat) : Int) := by
  rw [addM, if_neg (by omega), if_pos ⟨rfl, rfl⟩]; omega
theorem RX.addn {v : Nat → Nat → Int} : ∀ (d i m : Nat) (σ τ : IM), RX σ τ → τ 0 1 = (m : Int) → m + d ≤ 10 → (∀ j, i ≤ j → j < i + d → rowOk (v j)) → RX (addXn v d i m σ) (addMn v d i m τ)
  | 0, i, m, σ, τ, h, _, _, _ => h
  | d + 1, i, m, σ, τ, h, hm, h10, hv => RX.addn d (i + 1) (m + 1) _ _ (h.add hm (by omega) (hv i (by omega) (by omega))) addM_1 (by omega) (fun j h1 h2 => hv j (by omega) (by omega))
theorem addX_cong {σ : IM} {m : Nat} {v w : Nat → Int} (h : ∀ j, j < 5 → v j = w j) : addX σ m v = addX σ m w := by
  funext x y
  unfold addX
  by_cases q : x = 4 + m ∧ y < 7
  · rw [if_pos q, if_pos q]
    by_cases q2 : y < 5
    · rw [if_pos q2, if_pos q2]; exact h y q2
    · rw [if_neg q2, if_neg q2]
  · rw [if_neg q, if_neg q]
/-- n rows of the row k, from f on, come -/
theorem enlL {k n f c : Nat} {v : Nat → Nat → Int} {K : Mm → Aa} {z : Int32 → Mm → Aa} (hk : 14 ≤ k) (hn : n ≤ 1000) (hf : f + 5 * c ≤ n) (hv : ∀ i, i < c → rowOk (v i)) : ∀ (d i m N : Nat) (σ : IM), i + d = c → d < N → σ 1 1 = (m : Int) → m + d ≤ 10 → (∀ i j, i < c → j < 5 → σ k (f + 5 * i + j) = v i j) → mm_lk z (fX6_enlistAll_L17 (mI f) (mI c) k n K) N (mI i) (enc σ) = K (enc (addXn v d i m σ))
  | d, i, m, 0, σ, _, h, _, _, _ => absurd h (Nat.not_lt_zero d)
  | 0, i, m, N + 1, σ, h, _, _, _, _ => by
    rw [mm_lk_s, fX6_enlistAll_L17]
    simp (implicitDefEqProofs := false) (maxSteps := 1000000) (disch := omega) only [↓mm_lt_s, ↓cl_in, ↓cl_wi, ↓cl_has, ↓cl_isP, mL_le, lit_n, litL_n, mL_mI, mL_neg, mm_cl_s, mI_lt, mI_le, mI_eq, enc_at, enc_wr, enc_cp, mI_neg, mI_add, mI_sub, mI_mul, mI_ix, mm_ck_ok, mm_nz_ok, mm_bo_c, mm_bo_m0, mm_bo_m1, b01, Int.toNat_natCast, Int.reduceToNat, Int.reduceNeg, Int.reduceSub, Int.reduceAdd, Int.reduceMul, Int.reduceLT, Int.reduceLE, Int.reduceEq, ↓reduceIte, not_true, not_false_eq_true, not_true_eq_false, and_self, true_and, and_true, false_and, and_false, Decidable.not_not, stv1, stv2, stv3, stv4]
    repeat (first | rw [if_pos (by omega)] | rw [if_neg (by omega)])
    rfl
  | d + 1, i, m, N + 1, σ, h, h2, hm, h10, hs => by
    have e5 : ((f : Int) + (i : Int) * 5) = ((f + 5 * i : Nat) : Int) := by omega
    have e6 : rowOk (fun j => σ k (f + 5 * i + j)) := fun j hj => by
      rw [show (fun j => σ k (f + 5 * i + j)) j = v i j from hs i j (by omega) hj]; exact hv i (by omega) j hj
    rw [mm_lk_s, fX6_enlistAll_L17]
    simp (implicitDefEqProofs := false) (maxSteps := 1000000) (disch := omega) only [e5, ↓mm_lt_s, ↓cl_in, ↓cl_wi, ↓cl_has, ↓cl_isP, mL_le, lit_n, litL_n, mL_mI, mL_neg, mm_cl_s, mI_lt, mI_le, mI_eq, enc_at, enc_wr, enc_cp, mI_neg, mI_add, mI_sub, mI_mul, mI_ix, mm_ck_ok, mm_nz_ok, mm_bo_c, mm_bo_m0, mm_bo_m1, b01, Int.toNat_natCast, Int.reduceToNat, Int.reduceNeg, Int.reduceSub, Int.reduceAdd, Int.reduceMul, Int.reduceLT, Int.reduceLE, Int.reduceEq, ↓reduceIte, not_true, not_false_eq_true, not_true_eq_false, and_self, true_and, and_true, false_and, and_false, Decidable.not_not, stv1, stv2, stv3, stv4]
    rw [enlist_s (by omega) hn hm (by omega) hk e6]
    simp (implicitDefEqProofs := false) (maxSteps := 1000000) (disch := omega) only [cast_s, ↓mm_lt_s, ↓cl_in, ↓cl_wi, ↓cl_has, ↓cl_isP, mL_le, lit_n, litL_n, mL_mI, mL_neg, mm_cl_s, mI_lt, mI_le, mI_eq, enc_at, enc_wr, enc_cp, mI_neg, mI_add, mI_sub, mI_mul, mI_ix, mm_ck_ok, mm_nz_ok, mm_bo_c, mm_bo_m0, mm_bo_m1, b01, Int.toNat_natCast, Int.reduceToNat, Int.reduceNeg, Int.reduceSub, Int.reduceAdd, Int.reduceMul, Int.reduceLT, Int.reduceLE, Int.reduceEq, ↓reduceIte, not_true, not_false_eq_true, not_true_eq_false, and_self, true_and, and_true, false_and, and_false, Decidable.not_not, stv1, stv2, stv3, stv4]
    repeat (first | rw [if_pos (by omega)] | rw [if_neg (by omega)])
    rw [addX_cong (w := v i) (fun j hj => hs i j (by omega) hj)]
    exact enlL hk hn hf hv d (i + 1) (m + 1) N _ (by omega) (by omega) addX_1 (by omega) (fun i' j h3 h4 => by rw [addX_ne (by omega) (by omega)]; exact hs i' j h3 h4)
theorem enlAll {k n f c m : Nat} {v : Nat → Nat → Int} {σ : IM} (hk : 14 ≤ k) (hn : n ≤ 1000) (hf : f + 5 * c ≤ n) (hc : c ≤ 6) (hv : ∀ i, i < c → rowOk (v i)) (hm : σ 1 1 = (m : Int)) (h10 : m ≤ 10) (hs : ∀ i j, i < c → j < 5 → σ k (f + 5 * i + j) = v i j) : fX6_enlistAll k n (mI f) (mI c) (enc σ) = if m + c ≤ 10 then some (mI c, enc (addXn v c 0 m σ)) else some (mI (-3), enc σ) := by
  unfold fX6_enlistAll
  rw [room_s c σ (by omega) (by omega)]
  generalize hfu : mm_fu = NF; have hNF : 4096 ≤ NF := by rw [← hfu]; exact Nat.le_refl _
  simp (implicitDefEqProofs := false) (maxSteps := 1000000) (disch := omega) only [↓mm_lt_s, ↓cl_in, ↓cl_wi, ↓cl_has, ↓cl_isP, mL_le, lit_n, litL_n, mL_mI, mL_neg, mm_cl_s, mI_lt, mI_le, mI_eq, enc_at, enc_wr, enc_cp, mI_neg, mI_add, mI_sub, mI_mul, mI_ix, mm_ck_ok, mm_nz_ok, mm_bo_c, mm_bo_m0, mm_bo_m1, b01, Int.toNat_natCast, Int.reduceToNat, Int.reduceNeg, Int.reduceSub, Int.reduceAdd, Int.reduceMul, Int.reduceLT, Int.reduceLE, Int.reduceEq, ↓reduceIte, not_true, not_false_eq_true, not_true_eq_false, and_self, true_and, and_true, false_and, and_false, Decidable.not_not, stv1, stv2, stv3, stv4]
  by_cases c1 : m + c ≤ 10
  · repeat (first | rw [if_pos (by omega)] | rw [if_neg (by omega)])
    have E := enlL (z := fun _ _ => none) (K := fun m4 => some (mI c, m4)) hk hn hf hv c 0 m NF σ (by omega) (by omega) hm c1 hs
    rw [cast0] at E
    exact E
  · repeat (first | rw [if_pos (by omega)] | rw [if_neg (by omega)])
theorem addL {c : Nat} {v : Nat → Nat → Int} {K : Mm → Aa} {z : Int32 → Mm → Aa} (hc : c ≤ 6) : ∀ (d i m N : Nat) (τ : IM), i + d = c → d < N → τ 0 1 = (m : Int) → m + d ≤ 10 → τ 0 7 = (c : Int) → (∀ i j, i < c → j < 5 → τ 4 (5 * i + j) = v i j) → mm_lk z (fX7_addRead_L2 K) N (mI i) (enc τ) = K (enc (addMn v d i m τ))
  | d, i, m, 0, τ, _, h, _, _, _, _ => absurd h (Nat.not_lt_zero d)
  | 0, i, m, N + 1, τ, h, _, _, _, h7, _ => by
    rw [mm_lk_s, fX7_addRead_L2]
    simp (implicitDefEqProofs := false) (maxSteps := 1000000) (disch := omega) only [↓mm_lt_s, ↓cl_in, ↓cl_wi, ↓cl_has, ↓cl_isP, mL_le, lit_n, litL_n, mL_mI, mL_neg, mm_cl_s, mI_lt, mI_le, mI_eq, enc_at, enc_wr, enc_cp, mI_neg, mI_add, mI_sub, mI_mul, mI_ix, mm_ck_ok, mm_nz_ok, mm_bo_c, mm_bo_m0, mm_bo_m1, b01, Int.toNat_natCast, Int.reduceToNat, Int.reduceNeg, Int.reduceSub, Int.reduceAdd, Int.reduceMul, Int.reduceLT, Int.reduceLE, Int.reduceEq, ↓reduceIte, not_true, not_false_eq_true, not_true_eq_false, and_self, true_and, and_true, false_and, and_false, Decidable.not_not, stv1, stv2, stv3, stv4]
    repeat (first | rw [if_pos (by omega)] | rw [if_neg (by omega)])
    rfl
  | d + 1, i, m, N + 1, τ, h, h2, hm, h10, h7, hs => by
    have e0 : (5 * (i : Int)).toNat = 5 * i + 0 := by omega
    have e1 : (5 * (i : Int) + 1).toNat = 5 * i + 1 := by omega
    have e2 : (5 * (i : Int) + 2).toNat = 5 * i + 2 := by omega
    have e3 : (5 * (i : Int) + 3).toNat = 5 * i + 3 := by omega
    have e4 : (5 * (i : Int) + 4).toNat = 5 * i + 4 := by omega
    rw [mm_lk_s, fX7_addRead_L2]
    simp (implicitDefEqProofs := false) (maxSteps := 1000000) (disch := omega) only [e0, e1, e2, e3, e4, ↓mm_lt_s, ↓cl_in, ↓cl_wi, ↓cl_has, ↓cl_isP, mL_le, lit_n, litL_n, mL_mI, mL_neg, mm_cl_s, mI_lt, mI_le, mI_eq, enc_at, enc_wr, enc_cp, mI_neg, mI_add, mI_sub, mI_mul, mI_ix, mm_ck_ok, mm_nz_ok, mm_bo_c, mm_bo_m0, mm_bo_m1, b01, Int.toNat_natCast, Int.reduceToNat, Int.reduceNeg, Int.reduceSub, Int.reduceAdd, Int.reduceMul, Int.reduceLT, Int.reduceLE, Int.reduceEq, ↓reduceIte, not_true, not_false_eq_true, not_true_eq_false, and_self, true_and, and_true, false_and, and_false, Decidable.not_not, stv1, stv2, stv3, stv4]
    rw [hs i 0 (by omega) (by omega), hs i 1 (by omega) (by omega), hs i 2 (by omega) (by omega), hs i 3 (by omega) (by omega), hs i 4 (by omega) (by omega), add_s hm (by omega) (v i)]
    simp (implicitDefEqProofs := false) (maxSteps := 1000000) (disch := omega) only [cast_s, ↓mm_lt_s, ↓cl_in, ↓cl_wi, ↓cl_has, ↓cl_isP, mL_le, lit_n, litL_n, mL_mI, mL_neg, mm_cl_s, mI_lt, mI_le, mI_eq, enc_at, enc_wr, enc_cp, mI_neg, mI_add, mI_sub, mI_mul, mI_ix, mm_ck_ok, mm_nz_ok, mm_bo_c, mm_bo_m0, mm_bo_m1, b01, Int.toNat_natCast, Int.reduceToNat, Int.reduceNeg, Int.reduceSub, Int.reduceAdd, Int.reduceMul, Int.reduceLT, Int.reduceLE, Int.reduceEq, ↓reduceIte, not_true, not_false_eq_true, not_true_eq_false, and_self, true_and, and_true, false_and, and_false, Decidable.not_not, stv1, stv2, stv3, stv4]
    repeat (first | rw [if_pos (by omega)] | rw [if_neg (by omega)])
    exact addL hc d (i + 1) (m + 1) N _ (by omega) (by omega) addM_1 (by omega) (by rw [addM_ne (by omega) (by omega)]; exact h7) (fun i' j h3 h4 => by rw [addM_ne (by omega) (by omega)]; exact hs i' j h3 h4)
theorem addR {c m : Nat} {v : Nat → Nat → Int} {τ : IM} (hc : c ≤ 6) (hm : τ 0 1 = (m : Int)) (h10 : m + c ≤ 10) (h7 : τ 0 7 = (c : Int)) (hs : ∀ i j, i < c → j < 5 → τ 4 (5 * i + j) = v i j) : fX7_addRead (enc τ) = some (mI 0, enc (addMn v c 0 m τ)) := by
  unfold fX7_addRead
  generalize hfu : mm_fu = NF; have hNF : 4096 ≤ NF := by rw [← hfu]; exact Nat.le_refl _
  simp (implicitDefEqProofs := false) (maxSteps := 1000000) (disch := omega) only [↓mm_lt_s, ↓cl_in, ↓cl_wi, ↓cl_has, ↓cl_isP, mL_le, lit_n, litL_n, mL_mI, mL_neg, mm_cl_s, mI_lt, mI_le, mI_eq, enc_at, enc_wr, enc_cp, mI_neg, mI_add, mI_sub, mI_mul, mI_ix, mm_ck_ok, mm_nz_ok, mm_bo_c, mm_bo_m0, mm_bo_m1, b01, Int.toNat_natCast, Int.reduceToNat, Int.reduceNeg, Int.reduceSub, Int.reduceAdd, Int.reduceMul, Int.reduceLT, Int.reduceLE, Int.reduceEq, ↓reduceIte, not_true, not_false_eq_true, not_true_eq_false, and_self, true_and, and_true, false_and, and_false, Decidable.not_not, stv1, stv2, stv3, stv4]
  have E := addL (z := fun _ _ => none) (K := fun m2 => some (mI 0, m2)) hc c 0 m NF τ (by omega) (by omega) hm h10 h7 hs
  rw [cast0] at E
  exact E
/-- the class's look at the rows -/
theorem crowdX_ok {s f c : Nat} {σ : IM} {K0 K1 : Mm → Aa} {z : Int32 → Mm → Aa} (hs : s < 4) (hc : c ≤ 4) (hf : f + 5 * c ≤ 24) : ∀ (d i N : Nat), i + d = c → d < N → (∀ i', i ≤ i' → i' < c → rowOk (fun j => σ (53 + s) (f + 5 * i' + j))) → mm_lk z (fX6_crowd_L49 (mI s) (mI f) (mI c) K0 K1) N (mI i) (enc σ) = K1 (enc σ)
  | d, i, 0, _, h, _ => absurd h (Nat.not_lt_zero d)
  | 0, i, N + 1, h, _, _ => by
    rw [mm_lk_s, fX6_crowd_L49]
    simp (implicitDefEqProofs := false) (maxSteps := 1000000) (disch := omega) only [↓mm_lt_s, ↓cl_in, ↓cl_wi, ↓cl_has, ↓cl_isP, mL_le, lit_n, litL_n, mL_mI, mL_neg, mm_cl_s, mI_lt, mI_le, mI_eq, enc_at, enc_wr, enc_cp, mI_neg, mI_add, mI_sub, mI_mul, mI_ix, mm_ck_ok, mm_nz_ok, mm_bo_c, mm_bo_m0, mm_bo_m1, b01, Int.toNat_natCast, Int.reduceToNat, Int.reduceNeg, Int.reduceSub, Int.reduceAdd, Int.reduceMul, Int.reduceLT, Int.reduceLE, Int.reduceEq, ↓reduceIte, not_true, not_false_eq_true, not_true_eq_false, and_self, true_and, and_true, false_and, and_false, Decidable.not_not, stv1, stv2, stv3, stv4]
    repeat (first | rw [if_pos (by omega)] | rw [if_neg (by omega)])
  | d + 1, i, N + 1, h, h2, h3 => by
    have e5 : ((f : Int) + (i : Int) * 5) = ((f + 5 * i : Nat) : Int) := by omega
    rw [mm_lk_s, fX6_crowd_L49]
    simp (implicitDefEqProofs := false) (maxSteps := 1000000) (disch := omega) only [e5, ↓mm_lt_s, ↓cl_in, ↓cl_wi, ↓cl_has, ↓cl_isP, mL_le, lit_n, litL_n, mL_mI, mL_neg, mm_cl_s, mI_lt, mI_le, mI_eq, enc_at, enc_wr, enc_cp, mI_neg, mI_add, mI_sub, mI_mul, mI_ix, mm_ck_ok, mm_nz_ok, mm_bo_c, mm_bo_m0, mm_bo_m1, b01, Int.toNat_natCast, Int.reduceToNat, Int.reduceNeg, Int.reduceSub, Int.reduceAdd, Int.reduceMul, Int.reduceLT, Int.reduceLE, Int.reduceEq, ↓reduceIte, not_true, not_false_eq_true, not_true_eq_false, and_self, true_and, and_true, false_and, and_false, Decidable.not_not, stv1, stv2, stv3, stv4]
    rw [may_ok (by omega) (by omega) (h3 i (by omega) (by omega))]
    simp (implicitDefEqProofs := false) (maxSteps := 1000000) (disch := omega) only [cast_s, ↓mm_lt_s, ↓cl_in, ↓cl_wi, ↓cl_has, ↓cl_isP, mL_le, lit_n, litL_n, mL_mI, mL_neg, mm_cl_s, mI_lt, mI_le, mI_eq, enc_at, enc_wr, enc_cp, mI_neg, mI_add, mI_sub, mI_mul, mI_ix, mm_ck_ok, mm_nz_ok, mm_bo_c, mm_bo_m0, mm_bo_m1, b01, Int.toNat_natCast, Int.reduceToNat, Int.reduceNeg, Int.reduceSub, Int.reduceAdd, Int.reduceMul, Int.reduceLT, Int.reduceLE, Int.reduceEq, ↓reduceIte, not_true, not_false_eq_true, not_true_eq_false, and_self, true_and, and_true, false_and, and_false, Decidable.not_not, stv1, stv2, stv3, stv4]
    repeat (first | rw [if_pos (by omega)] | rw [if_neg (by omega)])
    exact crowdX_ok hs hc hf d (i + 1) N (by omega) (by omega) (fun i' h4 h5 => h3 i' (by omega) h5)
theorem crowdX_no {s f c : Nat} {σ : IM} {K0 K1 : Mm → Aa} {z : Int32 → Mm → Aa} (hs : s < 4) (hc : c ≤ 4) (hf : f + 5 * c ≤ 24) (hr : ∀ b, b < 24 → I32 (σ (53 + s) b)) : ∀ (d i N : Nat), i + d = c → d < N → (∃ i', i ≤ i' ∧ i' < c ∧ ¬ rowOk (fun j => σ (53 + s) (f + 5 * i' + j))) → mm_lk z (fX6_crowd_L49 (mI s) (mI f) (mI c) K0 K1) N (mI i) (enc σ) = K0 (enc σ)
  | d, i, 0, _, h, _ => absurd h (Nat.not_lt_zero d)
  | 0, i, N + 1, h, _, h3 => by
    obtain ⟨j, h4, h5, -⟩ := h3
    omega
  | d + 1, i, N + 1, h, h2, h3 => by
    have e5 : ((f : Int) + (i : Int) * 5) = ((f + 5 * i : Nat) : Int) := by omega
    rw [mm_lk_s, fX6_crowd_L49]
    simp (implicitDefEqProofs := false) (maxSteps := 1000000) (disch := omega) only [e5, ↓mm_lt_s, ↓cl_in, ↓cl_wi, ↓cl_has, ↓cl_isP, mL_le, lit_n, litL_n, mL_mI, mL_neg, mm_cl_s, mI_lt, mI_le, mI_eq, enc_at, enc_wr, enc_cp, mI_neg, mI_add, mI_sub, mI_mul, mI_ix, mm_ck_ok, mm_nz_ok, mm_bo_c, mm_bo_m0, mm_bo_m1, b01, Int.toNat_natCast, Int.reduceToNat, Int.reduceNeg, Int.reduceSub, Int.reduceAdd, Int.reduceMul, Int.reduceLT, Int.reduceLE, Int.reduceEq, ↓reduceIte, not_true, not_false_eq_true, not_true_eq_false, and_self, true_and, and_true, false_and, and_false, Decidable.not_not, stv1, stv2, stv3, stv4]
    by_cases c1 : rowOk (fun j => σ (53 + s) (f + 5 * i + j))
    · rw [may_ok (by omega) (by omega) c1]
      simp (implicitDefEqProofs := false) (maxSteps := 1000000) (disch := omega) only [cast_s, ↓mm_lt_s, ↓cl_in, ↓cl_wi, ↓cl_has, ↓cl_isP, mL_le, lit_n, litL_n, mL_mI, mL_neg, mm_cl_s, mI_lt, mI_le, mI_eq, enc_at, enc_wr, enc_cp, mI_neg, mI_add, mI_sub, mI_mul, mI_ix, mm_ck_ok, mm_nz_ok, mm_bo_c, mm_bo_m0, mm_bo_m1, b01, Int.toNat_natCast, Int.reduceToNat, Int.reduceNeg, Int.reduceSub, Int.reduceAdd, Int.reduceMul, Int.reduceLT, Int.reduceLE, Int.reduceEq, ↓reduceIte, not_true, not_false_eq_true, not_true_eq_false, and_self, true_and, and_true, false_and, and_false, Decidable.not_not, stv1, stv2, stv3, stv4]
      repeat (first | rw [if_pos (by omega)] | rw [if_neg (by omega)])
      refine crowdX_no hs hc hf hr d (i + 1) N (by omega) (by omega) ?_
      obtain ⟨j, h4, h5, h6⟩ := h3
      refine ⟨j, ?_, h5, h6⟩
      by_cases e9 : j = i
      · subst e9; exact absurd c1 h6
      · omega
    · rw [may_no (by omega) (by omega) (fun j hj => hr _ (by omega)) c1]
      simp (implicitDefEqProofs := false) (maxSteps := 1000000) (disch := omega) only [↓mm_lt_s, ↓cl_in, ↓cl_wi, ↓cl_has, ↓cl_isP, mL_le, lit_n, litL_n, mL_mI, mL_neg, mm_cl_s, mI_lt, mI_le, mI_eq, enc_at, enc_wr, enc_cp, mI_neg, mI_add, mI_sub, mI_mul, mI_ix, mm_ck_ok, mm_nz_ok, mm_bo_c, mm_bo_m0, mm_bo_m1, b01, Int.toNat_natCast, Int.reduceToNat, Int.reduceNeg, Int.reduceSub, Int.reduceAdd, Int.reduceMul, Int.reduceLT, Int.reduceLE, Int.reduceEq, ↓reduceIte, not_true, not_false_eq_true, not_true_eq_false, and_self, true_and, and_true, false_and, and_false, Decidable.not_not, stv1, stv2, stv3, stv4]
      repeat (first | rw [if_pos (by omega)] | rw [if_neg (by omega)])
/-- the reference copies five items -/
theorem crowd127 {i a : Nat} {K : Mm → Aa} {z : Int32 → Mm → Aa} (hi : i < 4) (ha : a + 5 ≤ 96) : ∀ (d f N : Nat) (τ : IM), f + d = 5 → d < N → mm_lk z (fX7_crowd_L127 (mI i) (mI a) K) N (mI f) (enc τ) = K (enc (ifl τ 4 (5 * i + f) (5 * i + 5) (fun b => τ 27 (a + (b - 5 * i)))))
  | d, f, 0, τ, _, h => absurd h (Nat.not_lt_zero d)
  | 0, f, N + 1, τ, h, _ => by
    rw [mm_lk_s, fX7_crowd_L127]
    simp (implicitDefEqProofs := false) (maxSteps := 1000000) (disch := omega) only [↓mm_lt_s, ↓cl_in, ↓cl_wi, ↓cl_has, ↓cl_isP, mL_le, lit_n, litL_n, mL_mI, mL_neg, mm_cl_s, mI_lt, mI_le, mI_eq, enc_at, enc_wr, enc_cp, mI_neg, mI_add, mI_sub, mI_mul, mI_ix, mm_ck_ok, mm_nz_ok, mm_bo_c, mm_bo_m0, mm_bo_m1, b01, Int.toNat_natCast, Int.reduceToNat, Int.reduceNeg, Int.reduceSub, Int.reduceAdd, Int.reduceMul, Int.reduceLT, Int.reduceLE, Int.reduceEq, ↓reduceIte, not_true, not_false_eq_true, not_true_eq_false, and_self, true_and, and_true, false_and, and_false, Decidable.not_not, stv1, stv2, stv3, stv4]
    repeat (first | rw [if_pos (by omega)] | rw [if_neg (by omega)])
    rw [ifl_nil (by omega)]
  | d + 1, f, N + 1, τ, h, h2 => by
    have e1 : (5 * (i : Int) + (f : Int)).toNat = 5 * i + f := by omega
    have e2 : ((a : Int) + (f : Int)).toNat = a + f := by omega
    rw [mm_lk_s, fX7_crowd_L127]
    simp (implicitDefEqProofs := false) (maxSteps := 1000000) (disch := omega) only [cast_s, e1, e2, ↓mm_lt_s, ↓cl_in, ↓cl_wi, ↓cl_has, ↓cl_isP, mL_le, lit_n, litL_n, mL_mI, mL_neg, mm_cl_s, mI_lt, mI_le, mI_eq, enc_at, enc_wr, enc_cp, mI_neg, mI_add, mI_sub, mI_mul, mI_ix, mm_ck_ok, mm_nz_ok, mm_bo_c, mm_bo_m0, mm_bo_m1, b01, Int.toNat_natCast, Int.reduceToNat, Int.reduceNeg, Int.reduceSub, Int.reduceAdd, Int.reduceMul, Int.reduceLT, Int.reduceLE, Int.reduceEq, ↓reduceIte, not_true, not_false_eq_true, not_true_eq_false, and_self, true_and, and_true, false_and, and_false, Decidable.not_not, stv1, stv2, stv3, stv4]
    repeat (first | rw [if_pos (by omega)] | rw [if_neg (by omega)])
    rw [crowd127 hi ha d (f + 1) N _ (by omega) (by omega), ← Nat.add_assoc]
    rw [show (fun b => iw τ 4 (5 * i + f) (τ 27 (a + f)) 27 (a + (b - 5 * i))) = (fun b => τ 27 (a + (b - 5 * i))) from funext fun b => iw_ne (by omega)]
    rw [ifl_step (f := fun b => τ 27 (a + (b - 5 * i))) (by omega) (by show τ 27 (a + f) = τ 27 (a + (5 * i + f - 5 * i)); congr 1; omega)]
theorem crowdM_ok {s f c : Nat} {K0 K1 : Mm → Aa} {z : Int32 → Mm → Aa} (hs : s < 4) (hc : c ≤ 4) (hf : f + 5 * c ≤ 24) : ∀ (d i N : Nat) (τ : IM), i + d = c → d < N → (∀ i', i ≤ i' → i' < c → rowOk (fun j => τ 27 (24 * s + f + 5 * i' + j))) → mm_lk z (fX7_crowd_L47 (mI s) (mI f) (mI c) K0 K1) N (mI i) (enc τ) = K1 (enc (ifl τ 4 (5 * i) (5 * c) (fun b => τ 27 (24 * s + f + b))))
  | d, i, 0, τ, _, h, _ => absurd h (Nat.not_lt_zero d)
  | 0, i, N + 1, τ, h, _, _ => by
    rw [mm_lk_s, fX7_crowd_L47]
    generalize hfu : mm_fu = NF; have hNF : 4096 ≤ NF := by rw [← hfu]; exact Nat.le_refl _
    simp (implicitDefEqProofs := false) (maxSteps := 1000000) (disch := omega) only [↓mm_lt_s, ↓cl_in, ↓cl_wi, ↓cl_has, ↓cl_isP, mL_le, lit_n, litL_n, mL_mI, mL_neg, mm_cl_s, mI_lt, mI_le, mI_eq, enc_at, enc_wr, enc_cp, mI_neg, mI_add, mI_sub, mI_mul, mI_ix, mm_ck_ok, mm_nz_ok, mm_bo_c, mm_bo_m0, mm_bo_m1, b01, Int.toNat_natCast, Int.reduceToNat, Int.reduceNeg, Int.reduceSub, Int.reduceAdd, Int.reduceMul, Int.reduceLT, Int.reduceLE, Int.reduceEq, ↓reduceIte, not_true, not_false_eq_true, not_true_eq_false, and_self, true_and, and_true, false_and, and_false, Decidable.not_not, stv1, stv2, stv3, stv4]
    repeat (first | rw [if_pos (by omega)] | rw [if_neg (by omega)])
    rw [ifl_nil (by omega)]
  | d + 1, i, N + 1, τ, h, h2, h3 => by
    have q := h3 i (by omega) (by omega)
    have r0 := q 0 (by omega)
    have r1 := q 1 (by omega)
    have r2 := q 2 (by omega)
    have r3 := q 3 (by omega)
    have r4 := q 4 (by omega)
    have t0 := tolB 0
    have t1 := tolB 1
    have t2 := tolB 2
    have t3 := tolB 3
    have t4 := tolB 4
    have e5 : (24 * (s : Int) + (f : Int) + 5 * (i : Int)) = ((24 * s + f + 5 * i : Nat) : Int) := by omega
    have M := (mayM (fun j => τ 27 (24 * s + f + 5 * i + j)) (fun j hj => by have := q j hj; have := tolB j; dsimp only at *; omega) (enc τ)).1 q
    rw [mm_lk_s, fX7_crowd_L47]
    generalize hfu : mm_fu = NF; have hNF : 4096 ≤ NF := by rw [← hfu]; exact Nat.le_refl _
    generalize hA : 24 * s + f + 5 * i = A at *
    have hA2 : A + 5 ≤ 96 := by omega
    have g1 : ((A : Int) + 1).toNat = A + 1 := by omega
    have g2 : ((A : Int) + 2).toNat = A + 2 := by omega
    have g3 : ((A : Int) + 3).toNat = A + 3 := by omega
    have g4 : ((A : Int) + 4).toNat = A + 4 := by omega
    simp only [Nat.add_zero] at r0 r1 r2 r3 r4 M
    simp (implicitDefEqProofs := false) (maxSteps := 1000000) (disch := omega) only [e5, g1, g2, g3, g4, ↓mm_lt_s, ↓cl_in, ↓cl_wi, ↓cl_has, ↓cl_isP, mL_le, lit_n, litL_n, mL_mI, mL_neg, mm_cl_s, mI_lt, mI_le, mI_eq, enc_at, enc_wr, enc_cp, mI_neg, mI_add, mI_sub, mI_mul, mI_ix, mm_ck_ok, mm_nz_ok, mm_bo_c, mm_bo_m0, mm_bo_m1, b01, Int.toNat_natCast, Int.reduceToNat, Int.reduceNeg, Int.reduceSub, Int.reduceAdd, Int.reduceMul, Int.reduceLT, Int.reduceLE, Int.reduceEq, ↓reduceIte, not_true, not_false_eq_true, not_true_eq_false, and_self, true_and, and_true, false_and, and_false, Decidable.not_not, stv1, stv2, stv3, stv4]
    rw [M]
    simp (implicitDefEqProofs := false) (maxSteps := 1000000) (disch := omega) only [e5, ↓mm_lt_s, ↓cl_in, ↓cl_wi, ↓cl_has, ↓cl_isP, mL_le, lit_n, litL_n, mL_mI, mL_neg, mm_cl_s, mI_lt, mI_le, mI_eq, enc_at, enc_wr, enc_cp, mI_neg, mI_add, mI_sub, mI_mul, mI_ix, mm_ck_ok, mm_nz_ok, mm_bo_c, mm_bo_m0, mm_bo_m1, b01, Int.toNat_natCast, Int.reduceToNat, Int.reduceNeg, Int.reduceSub, Int.reduceAdd, Int.reduceMul, Int.reduceLT, Int.reduceLE, Int.reduceEq, ↓reduceIte, not_true, not_false_eq_true, not_true_eq_false, and_self, true_and, and_true, false_and, and_false, Decidable.not_not, stv1, stv2, stv3, stv4]
    repeat (first | rw [if_pos (by omega)] | rw [if_neg (by omega)])
    have E := crowd127 (i := i) (a := A) (z := fun _ _ => none) (K := fun m21 => mm_lk z (fX7_crowd_L47 (mI s) (mI f) (mI c) K0 K1) N (mI ((i : Int) + 1)) m21) (by omega) hA2 5 0 NF τ (by omega) (by omega)
    rw [cast0] at E
    rw [E]
    show mm_lk z _ N (mI ((i : Int) + 1)) _ = _
    rw [cast_s, crowdM_ok hs hc hf d (i + 1) N _ (by omega) (by omega) (fun i' h4 h5 => ?_)]
    · congr 2
      funext x y
      unfold ifl
      by_cases u1 : x = 4 ∧ 5 * (i + 1) ≤ y ∧ y < 5 * c
      · rw [if_pos u1, if_pos (by omega)]
        dsimp only
        rw [if_neg (by omega)]
      · rw [if_neg u1]
        by_cases u2 : x = 4 ∧ 5 * i + 0 ≤ y ∧ y < 5 * i + 5
        · rw [if_pos u2, if_pos (by omega)]
          dsimp only
          congr 1
          omega
        · rw [if_neg u2, if_neg (by omega)]
    · intro j hj
      have := h3 i' (by omega) h5 j hj
      dsimp only at *
      rw [ifl_ne (by omega)]
      exact this
theorem crowdM_no {s f c : Nat} {K0 K1 : Mm → Aa} {z : Int32 → Mm → Aa} (hs : s < 4) (hc : c ≤ 4) (hf : f + 5 * c ≤ 24) : ∀ (d i N : Nat) (τ : IM), i + d = c → d < N → (∀ b, b < 24 → I32 (τ 27 (24 * s + b))) → (∃ i', i ≤ i' ∧ i' < c ∧ ¬ rowOk (fun j => τ 27 (24 * s + f + 5 * i' + j))) → ∃ τ' : IM, (∀ a b, a ≠ 4 → τ' a b = τ a b) ∧ mm_lk z (fX7_crowd_L47 (mI s) (mI f) (mI c) K0 K1) N (mI i) (enc τ) = K0 (enc τ')
  | d, i, 0, τ, _, h, _, _ => absurd h (Nat.not_lt_zero d)
  | 0, i, N + 1, τ, h, _, _, h3 => by
    obtain ⟨j, h4, h5, -⟩ := h3
    omega
  | d + 1, i, N + 1, τ, h, h2, hr, h3 => by
    have rr : ∀ j, j < 5 → I32 (τ 27 (24 * s + f + 5 * i + j)) := fun j hj => by
      have := hr (f + 5 * i + j) (by omega)
      rw [show 24 * s + (f + 5 * i + j) = 24 * s + f + 5 * i + j by omega] at this
      exact this
    have r0 := rr 0 (by omega)
    have r1 := rr 1 (by omega)
    have r2 := rr 2 (by omega)
    have r3 := rr 3 (by omega)
    have r4 := rr 4 (by omega)
    have e5 : (24 * (s : Int) + (f : Int) + 5 * (i : Int)) = ((24 * s + f + 5 * i : Nat) : Int) := by omega
    have M := mayM (fun j => τ 27 (24 * s + f + 5 * i + j)) rr (enc τ)
    rw [mm_lk_s, fX7_crowd_L47]
    generalize hfu : mm_fu = NF; have hNF : 4096 ≤ NF := by rw [← hfu]; exact Nat.le_refl _
    by_cases c1 : rowOk (fun j => τ 27 (24 * s + f + 5 * i + j))
    · have M := M.1 c1
      have h3' : ∃ i', i + 1 ≤ i' ∧ i' < c ∧ ¬ rowOk (fun j => τ 27 (24 * s + f + 5 * i' + j)) := by
        obtain ⟨j, h4, h5, h6⟩ := h3
        refine ⟨j, ?_, h5, h6⟩
        by_cases e9 : j = i
        · subst e9; exact absurd c1 h6
        · omega
      clear h3 c1 rr
      generalize hA : 24 * s + f + 5 * i = A at *
      have hA2 : A + 5 ≤ 96 := by omega
      have g1 : ((A : Int) + 1).toNat = A + 1 := by omega
      have g2 : ((A : Int) + 2).toNat = A + 2 := by omega
      have g3 : ((A : Int) + 3).toNat = A + 3 := by omega
      have g4 : ((A : Int) + 4).toNat = A + 4 := by omega
      try simp only [Nat.add_zero] at r0 r1 r2 r3 r4 M
      simp (implicitDefEqProofs := false) (maxSteps := 1000000) (disch := omega) only [e5, g1, g2, g3, g4, ↓mm_lt_s, ↓cl_in, ↓cl_wi, ↓cl_has, ↓cl_isP, mL_le, lit_n, litL_n, mL_mI, mL_neg, mm_cl_s, mI_lt, mI_le, mI_eq, enc_at, enc_wr, enc_cp, mI_neg, mI_add, mI_sub, mI_mul, mI_ix, mm_ck_ok, mm_nz_ok, mm_bo_c, mm_bo_m0, mm_bo_m1, b01, Int.toNat_natCast, Int.reduceToNat, Int.reduceNeg, Int.reduceSub, Int.reduceAdd, Int.reduceMul, Int.reduceLT, Int.reduceLE, Int.reduceEq, ↓reduceIte, not_true, not_false_eq_true, not_true_eq_false, and_self, true_and, and_true, false_and, and_false, Decidable.not_not, stv1, stv2, stv3, stv4]
      rw [M]
      simp (implicitDefEqProofs := false) (maxSteps := 1000000) (disch := omega) only [e5, ↓mm_lt_s, ↓cl_in, ↓cl_wi, ↓cl_has, ↓cl_isP, mL_le, lit_n, litL_n, mL_mI, mL_neg, mm_cl_s, mI_lt, mI_le, mI_eq, enc_at, enc_wr, enc_cp, mI_neg, mI_add, mI_sub, mI_mul, mI_ix, mm_ck_ok, mm_nz_ok, mm_bo_c, mm_bo_m0, mm_bo_m1, b01, Int.toNat_natCast, Int.reduceToNat, Int.reduceNeg, Int.reduceSub, Int.reduceAdd, Int.reduceMul, Int.reduceLT, Int.reduceLE, Int.reduceEq, ↓reduceIte, not_true, not_false_eq_true, not_true_eq_false, and_self, true_and, and_true, false_and, and_false, Decidable.not_not, stv1, stv2, stv3, stv4]
      repeat (first | rw [if_pos (by omega)] | rw [if_neg (by omega)])
      have E := crowd127 (i := i) (a := A) (z := fun _ _ => none) (K := fun m21 => mm_lk z (fX7_crowd_L47 (mI s) (mI f) (mI c) K0 K1) N (mI ((i : Int) + 1)) m21) (by omega) hA2 5 0 NF τ (by omega) (by omega)
      rw [cast0] at E
      rw [E]
      show ∃ τ' : IM, _ ∧ mm_lk z _ N (mI ((i : Int) + 1)) _ = _
      rw [cast_s]
      obtain ⟨τ', p1, p2⟩ := crowdM_no (K0 := K0) (K1 := K1) (z := z) hs hc hf d (i + 1) N (ifl τ 4 (5 * i + 0) (5 * i + 5) (fun b => τ 27 (A + (b - 5 * i)))) (by omega) (by omega) (fun b hb => by rw [ifl_ne (by omega)]; exact hr b hb) (by
        obtain ⟨j, h4, h5, h6⟩ := h3'
        refine ⟨j, h4, h5, fun h7 => h6 fun jj hjj => ?_⟩
        have := h7 jj hjj
        dsimp only at this
        rw [ifl_ne (by omega)] at this
        exact this)
      exact ⟨τ', fun a b hab => (p1 a b hab).trans (ifl_ne (by omega)), p2⟩
    · have M := M.2 c1
      clear h3 c1 rr
      generalize hA : 24 * s + f + 5 * i = A at *
      have hA2 : A + 5 ≤ 96 := by omega
      have g1 : ((A : Int) + 1).toNat = A + 1 := by omega
      have g2 : ((A : Int) + 2).toNat = A + 2 := by omega
      have g3 : ((A : Int) + 3).toNat = A + 3 := by omega
      have g4 : ((A : Int) + 4).toNat = A + 4 := by omega
      try simp only [Nat.add_zero] at r0 r1 r2 r3 r4 M
      simp (implicitDefEqProofs := false) (maxSteps := 1000000) (disch := omega) only [e5, g1, g2, g3, g4, ↓mm_lt_s, ↓cl_in, ↓cl_wi, ↓cl_has, ↓cl_isP, mL_le, lit_n, litL_n, mL_mI, mL_neg, mm_cl_s, mI_lt, mI_le, mI_eq, enc_at, enc_wr, enc_cp, mI_neg, mI_add, mI_sub, mI_mul, mI_ix, mm_ck_ok, mm_nz_ok, mm_bo_c, mm_bo_m0, mm_bo_m1, b01, Int.toNat_natCast, Int.reduceToNat, Int.reduceNeg, Int.reduceSub, Int.reduceAdd, Int.reduceMul, Int.reduceLT, Int.reduceLE, Int.reduceEq, ↓reduceIte, not_true, not_false_eq_true, not_true_eq_false, and_self, true_and, and_true, false_and, and_false, Decidable.not_not, stv1, stv2, stv3, stv4]
      rw [M]
      simp (implicitDefEqProofs := false) (maxSteps := 1000000) (disch := omega) only [e5, ↓mm_lt_s, ↓cl_in, ↓cl_wi, ↓cl_has, ↓cl_isP, mL_le, lit_n, litL_n, mL_mI, mL_neg, mm_cl_s, mI_lt, mI_le, mI_eq, enc_at, enc_wr, enc_cp, mI_neg, mI_add, mI_sub, mI_mul, mI_ix, mm_ck_ok, mm_nz_ok, mm_bo_c, mm_bo_m0, mm_bo_m1, b01, Int.toNat_natCast, Int.reduceToNat, Int.reduceNeg, Int.reduceSub, Int.reduceAdd, Int.reduceMul, Int.reduceLT, Int.reduceLE, Int.reduceEq, ↓reduceIte, not_true, not_false_eq_true, not_true_eq_false, and_self, true_and, and_true, false_and, and_false, Decidable.not_not, stv1, stv2, stv3, stv4]
      repeat (first | rw [if_pos (by omega)] | rw [if_neg (by omega)])
      exact ⟨τ, fun _ _ _ => rfl, rfl⟩
theorem crowdBad {σ τ : IM} (h : RX σ τ) (a b c d : Int) (ha : I32 a) (hb : I32 b) (hc : I32 c) (hd : I32 d) (hx : ¬ (1 ≤ d ∧ d ≤ 4)) : Like (fX6_crowd (mI a) (mI b) (mI c) (mI d) (enc σ)) (fX7_crowd (mI a) (mI b) (mI c) (mI d) (enc τ)) := by
  unfold fX6_crowd fX7_crowd
  rw [isSheet_s a b ha hb]
  by_cases c1 : d < 1
  · have c2 : ¬ 1 ≤ d := by omega
    simp (implicitDefEqProofs := false) (maxSteps := 1000000) (disch := omega) only [c1, c2, ↓mm_lt_s, ↓cl_in, ↓cl_wi, ↓cl_has, ↓cl_isP, mL_le, lit_n, litL_n, mL_mI, mL_neg, mm_cl_s, mI_lt, mI_le, mI_eq, enc_at, enc_wr, enc_cp, mI_neg, mI_add, mI_sub, mI_mul, mI_ix, mm_ck_ok, mm_nz_ok, mm_bo_c, mm_bo_m0, mm_bo_m1, b01, Int.toNat_natCast, Int.reduceToNat, Int.reduceNeg, Int.reduceSub, Int.reduceAdd, Int.reduceMul, Int.reduceLT, Int.reduceLE, Int.reduceEq, ↓reduceIte, not_true, not_false_eq_true, not_true_eq_false, and_self, true_and, and_true, false_and, and_false, Decidable.not_not, stv1, stv2, stv3, stv4]
    by_cases c3 : (0 ≤ a ∧ a ≤ 3) ∧ 0 ≤ b ∧ b ≤ 2
    · simp (implicitDefEqProofs := false) (maxSteps := 1000000) (disch := omega) only [c3, ↓mm_lt_s, ↓cl_in, ↓cl_wi, ↓cl_has, ↓cl_isP, mL_le, lit_n, litL_n, mL_mI, mL_neg, mm_cl_s, mI_lt, mI_le, mI_eq, enc_at, enc_wr, enc_cp, mI_neg, mI_add, mI_sub, mI_mul, mI_ix, mm_ck_ok, mm_nz_ok, mm_bo_c, mm_bo_m0, mm_bo_m1, b01, Int.toNat_natCast, Int.reduceToNat, Int.reduceNeg, Int.reduceSub, Int.reduceAdd, Int.reduceMul, Int.reduceLT, Int.reduceLE, Int.reduceEq, ↓reduceIte, not_true, not_false_eq_true, not_true_eq_false, and_self, true_and, and_true, false_and, and_false, Decidable.not_not, stv1, stv2, stv3, stv4]
      exact Like.mk rfl rfl h
    · simp (implicitDefEqProofs := false) (maxSteps := 1000000) (disch := omega) only [c3, ↓mm_lt_s, ↓cl_in, ↓cl_wi, ↓cl_has, ↓cl_isP, mL_le, lit_n, litL_n, mL_mI, mL_neg, mm_cl_s, mI_lt, mI_le, mI_eq, enc_at, enc_wr, enc_cp, mI_neg, mI_add, mI_sub, mI_mul, mI_ix, mm_ck_ok, mm_nz_ok, mm_bo_c, mm_bo_m0, mm_bo_m1, b01, Int.toNat_natCast, Int.reduceToNat, Int.reduceNeg, Int.reduceSub, Int.reduceAdd, Int.reduceMul, Int.reduceLT, Int.reduceLE, Int.reduceEq, ↓reduceIte, not_true, not_false_eq_true, not_true_eq_false, and_self, true_and, and_true, false_and, and_false, Decidable.not_not, stv1, stv2, stv3, stv4]
      exact Like.mk rfl rfl h
  · have c2 : 1 ≤ d := by omega
    have c4 : ¬ d ≤ 4 := by omega
    simp (implicitDefEqProofs := false) (maxSteps := 1000000) (disch := omega) only [c1, c2, c4, ↓mm_lt_s, ↓cl_in, ↓cl_wi, ↓cl_has, ↓cl_isP, mL_le, lit_n, litL_n, mL_mI, mL_neg, mm_cl_s, mI_lt, mI_le, mI_eq, enc_at, enc_wr, enc_cp, mI_neg, mI_add, mI_sub, mI_mul, mI_ix, mm_ck_ok, mm_nz_ok, mm_bo_c, mm_bo_m0, mm_bo_m1, b01, Int.toNat_natCast, Int.reduceToNat, Int.reduceNeg, Int.reduceSub, Int.reduceAdd, Int.reduceMul, Int.reduceLT, Int.reduceLE, Int.reduceEq, ↓reduceIte, not_true, not_false_eq_true, not_true_eq_false, and_self, true_and, and_true, false_and, and_false, Decidable.not_not, stv1, stv2, stv3, stv4]
    by_cases c3 : (0 ≤ a ∧ a ≤ 3) ∧ 0 ≤ b ∧ b ≤ 2
    · simp (implicitDefEqProofs := false) (maxSteps := 1000000) (disch := omega) only [c3, ↓mm_lt_s, ↓cl_in, ↓cl_wi, ↓cl_has, ↓cl_isP, mL_le, lit_n, litL_n, mL_mI, mL_neg, mm_cl_s, mI_lt, mI_le, mI_eq, enc_at, enc_wr, enc_cp, mI_neg, mI_add, mI_sub, mI_mul, mI_ix, mm_ck_ok, mm_nz_ok, mm_bo_c, mm_bo_m0, mm_bo_m1, b01, Int.toNat_natCast, Int.reduceToNat, Int.reduceNeg, Int.reduceSub, Int.reduceAdd, Int.reduceMul, Int.reduceLT, Int.reduceLE, Int.reduceEq, ↓reduceIte, not_true, not_false_eq_true, not_true_eq_false, and_self, true_and, and_true, false_and, and_false, Decidable.not_not, stv1, stv2, stv3, stv4]
      exact Like.mk rfl rfl h
    · simp (implicitDefEqProofs := false) (maxSteps := 1000000) (disch := omega) only [c3, ↓mm_lt_s, ↓cl_in, ↓cl_wi, ↓cl_has, ↓cl_isP, mL_le, lit_n, litL_n, mL_mI, mL_neg, mm_cl_s, mI_lt, mI_le, mI_eq, enc_at, enc_wr, enc_cp, mI_neg, mI_add, mI_sub, mI_mul, mI_ix, mm_ck_ok, mm_nz_ok, mm_bo_c, mm_bo_m0, mm_bo_m1, b01, Int.toNat_natCast, Int.reduceToNat, Int.reduceNeg, Int.reduceSub, Int.reduceAdd, Int.reduceMul, Int.reduceLT, Int.reduceLE, Int.reduceEq, ↓reduceIte, not_true, not_false_eq_true, not_true_eq_false, and_self, true_and, and_true, false_and, and_false, Decidable.not_not, stv1, stv2, stv3, stv4]
      exact Like.mk rfl rfl h
theorem q_crowd (a b c d : Int) (ha : I32 a) (hb : I32 b) (hc : I32 c) (hd : I32 d) {σ τ : IM} (h : RX σ τ) : Like (fX6_crowd (mI a) (mI b) (mI c) (mI d) (enc σ)) (fX7_crowd (mI a) (mI b) (mI c) (mI d) (enc τ)) := by
  by_cases hx : 1 ≤ d ∧ d ≤ 4
  · obtain ⟨n, rfl⟩ := Int.eq_ofNat_of_zero_le (show 0 ≤ d by omega)
    have hx1 : ¬ (n : Int) < 1 := by omega
    have hx2 : 1 ≤ (n : Int) := by omega
    have hx3 : (n : Int) ≤ 4 := by omega
    obtain ⟨⟨n1, n2, n3⟩, n4, n5, n6⟩ := h.now
    obtain ⟨m, hm⟩ := Int.eq_ofNat_of_zero_le n5
    obtain ⟨r, r1, r2, r3, r4, r5⟩ := rr h a b c ((n : Int) * 5) ha hb hc (by omega)
    have r4' : (0 ≤ a ∧ a ≤ 3) ∧ (0 ≤ b ∧ b ≤ 2) → fX7_lacksRow (mI a) (mI b) (mI c) (mI (5 * (n : Int))) (enc τ) = some (mI r, enc τ) := fun q => by rw [Int.mul_comm]; exact r4 q
    unfold fX6_crowd fX7_crowd
    generalize hfu : mm_fu = NF; have hNF : 4096 ≤ NF := by rw [← hfu]; exact Nat.le_refl _
    rw [isSheet_s a b ha hb]
    by_cases c0 : (0 ≤ a ∧ a ≤ 3) ∧ 0 ≤ b ∧ b ≤ 2
    · simp (implicitDefEqProofs := false) (maxSteps := 1000000) (disch := omega) only [hx1, hx2, hx3, c0, ↓mm_lt_s, ↓cl_in, ↓cl_wi, ↓cl_has, ↓cl_isP, mL_le, lit_n, litL_n, mL_mI, mL_neg, mm_cl_s, mI_lt, mI_le, mI_eq, enc_at, enc_wr, enc_cp, mI_neg, mI_add, mI_sub, mI_mul, mI_ix, mm_ck_ok, mm_nz_ok, mm_bo_c, mm_bo_m0, mm_bo_m1, b01, Int.toNat_natCast, Int.reduceToNat, Int.reduceNeg, Int.reduceSub, Int.reduceAdd, Int.reduceMul, Int.reduceLT, Int.reduceLE, Int.reduceEq, ↓reduceIte, not_true, not_false_eq_true, not_true_eq_false, and_self, true_and, and_true, false_and, and_false, Decidable.not_not, stv1, stv2, stv3, stv4]
      rw [r1, r4' c0]
      simp (implicitDefEqProofs := false) (maxSteps := 1000000) (disch := omega) only [↓mm_lt_s, ↓cl_in, ↓cl_wi, ↓cl_has, ↓cl_isP, mL_le, lit_n, litL_n, mL_mI, mL_neg, mm_cl_s, mI_lt, mI_le, mI_eq, enc_at, enc_wr, enc_cp, mI_neg, mI_add, mI_sub, mI_mul, mI_ix, mm_ck_ok, mm_nz_ok, mm_bo_c, mm_bo_m0, mm_bo_m1, b01, Int.toNat_natCast, Int.reduceToNat, Int.reduceNeg, Int.reduceSub, Int.reduceAdd, Int.reduceMul, Int.reduceLT, Int.reduceLE, Int.reduceEq, ↓reduceIte, not_true, not_false_eq_true, not_true_eq_false, and_self, true_and, and_true, false_and, and_false, Decidable.not_not, stv1, stv2, stv3, stv4]
      by_cases c1 : r = 0
      · obtain ⟨s, hs, rfl, e1, e2, e3, e4, e5⟩ := r5 c1
        obtain ⟨f, rfl⟩ := Int.eq_ofNat_of_zero_le e4
        obtain ⟨b1, b2, b3, b4⟩ := h.2.2.2 s hs
        obtain ⟨⟨d1, d2, d3⟩, d4⟩ := b4 (by omega)
        have hf : f + 5 * n ≤ 24 := by omega
        have hcells : ∀ i j, i < n → j < 5 → σ (53 + s) (f + 5 * i + j) = τ 27 (24 * s + f + 5 * i + j) := fun i j hi hj => by
          rw [(d4 (f + 5 * i + j) (by omega)).1]; congr 1; omega
        simp (implicitDefEqProofs := false) (maxSteps := 1000000) (disch := omega) only [↓mm_lt_s, ↓cl_in, ↓cl_wi, ↓cl_has, ↓cl_isP, mL_le, lit_n, litL_n, mL_mI, mL_neg, mm_cl_s, mI_lt, mI_le, mI_eq, enc_at, enc_wr, enc_cp, mI_neg, mI_add, mI_sub, mI_mul, mI_ix, mm_ck_ok, mm_nz_ok, mm_bo_c, mm_bo_m0, mm_bo_m1, b01, Int.toNat_natCast, Int.reduceToNat, Int.reduceNeg, Int.reduceSub, Int.reduceAdd, Int.reduceMul, Int.reduceLT, Int.reduceLE, Int.reduceEq, ↓reduceIte, not_true, not_false_eq_true, not_true_eq_false, and_self, true_and, and_true, false_and, and_false, Decidable.not_not, stv1, stv2, stv3, stv4]
        repeat (first | rw [if_pos (by omega)] | rw [if_neg (by omega)])
        by_cases c2 : ∀ i, i < n → rowOk (fun j => τ 27 (24 * s + f + 5 * i + j))
        · have c2x : ∀ i, i < n → rowOk (fun j => σ (53 + s) (f + 5 * i + j)) := fun i hi j hj => by
            have := c2 i hi j hj
            dsimp only at *
            rw [hcells i j hi hj]; exact this
          rw [show mI 0 = mI ((0 : Nat) : Int) from rfl, crowdX_ok hs (by omega) hf n 0 NF (by omega) (by omega) (fun i _ hi => c2x i hi), crowdM_ok hs (by omega) hf n 0 NF _ (by omega) (by omega) (fun i _ hi => c2 i hi)]
          rw [enlAll (v := fun i j => τ 27 (24 * s + f + 5 * i + j)) (by omega) (by omega) hf (by omega) c2 (n4.trans hm) (by omega) hcells]
          simp (implicitDefEqProofs := false) (maxSteps := 1000000) (disch := omega) only [↓mm_lt_s, ↓cl_in, ↓cl_wi, ↓cl_has, ↓cl_isP, mL_le, lit_n, litL_n, mL_mI, mL_neg, mm_cl_s, mI_lt, mI_le, mI_eq, enc_at, enc_wr, enc_cp, mI_neg, mI_add, mI_sub, mI_mul, mI_ix, mm_ck_ok, mm_nz_ok, mm_bo_c, mm_bo_m0, mm_bo_m1, b01, Int.toNat_natCast, Int.reduceToNat, Int.reduceNeg, Int.reduceSub, Int.reduceAdd, Int.reduceMul, Int.reduceLT, Int.reduceLE, Int.reduceEq, ↓reduceIte, not_true, not_false_eq_true, not_true_eq_false, and_self, true_and, and_true, false_and, and_false, Decidable.not_not, stv1, stv2, stv3, stv4]
          rw [ifl_ne (by omega)]
          by_cases c3 : m + n ≤ 10
          · repeat (first | rw [if_pos (by omega)] | rw [if_neg (by omega)])
            simp (implicitDefEqProofs := false) (maxSteps := 1000000) (disch := omega) only [↓mm_lt_s, ↓cl_in, ↓cl_wi, ↓cl_has, ↓cl_isP, mL_le, lit_n, litL_n, mL_mI, mL_neg, mm_cl_s, mI_lt, mI_le, mI_eq, enc_at, enc_wr, enc_cp, mI_neg, mI_add, mI_sub, mI_mul, mI_ix, mm_ck_ok, mm_nz_ok, mm_bo_c, mm_bo_m0, mm_bo_m1, b01, Int.toNat_natCast, Int.reduceToNat, Int.reduceNeg, Int.reduceSub, Int.reduceAdd, Int.reduceMul, Int.reduceLT, Int.reduceLE, Int.reduceEq, ↓reduceIte, not_true, not_false_eq_true, not_true_eq_false, and_self, true_and, and_true, false_and, and_false, Decidable.not_not, stv1, stv2, stv3, stv4]
            generalize hτ : iw (ifl τ 4 (5 * 0) (5 * n) (fun b => τ 27 (24 * s + f + b))) 0 7 (n : Int) = τ1
            have T1 : ∀ k j, k ≠ 4 → ¬ (k = 0 ∧ j = 7) → τ1 k j = τ k j := fun k j h1 h2 => by rw [← hτ, iw_ne (by omega), ifl_ne (by omega)]
            have T2 : ∀ i j, i < n → j < 5 → τ1 4 (5 * i + j) = τ 27 (24 * s + f + 5 * i + j) := fun i j hi hj => by
              rw [← hτ, iw_ne (by omega), ifl_in (by omega) (by omega)]; congr 1; omega
            have T3 : τ1 0 7 = (n : Int) := by rw [← hτ, iw_eq rfl rfl]
            clear hτ
            have R1 : RX σ τ1 := h.cong (fun _ _ _ => rfl) (fun k j hk => T1 k j (by unfold keepM at hk; omega) (by unfold keepM at hk; omega))
            have hm1 : τ1 0 1 = (m : Int) := by rw [T1 _ _ (by omega) (by omega)]; exact hm
            rw [addR (v := fun i j => τ 27 (24 * s + f + 5 * i + j)) (by omega) hm1 c3 T3 T2]
            simp (implicitDefEqProofs := false) (maxSteps := 1000000) (disch := omega) only [↓mm_lt_s, ↓cl_in, ↓cl_wi, ↓cl_has, ↓cl_isP, mL_le, lit_n, litL_n, mL_mI, mL_neg, mm_cl_s, mI_lt, mI_le, mI_eq, enc_at, enc_wr, enc_cp, mI_neg, mI_add, mI_sub, mI_mul, mI_ix, mm_ck_ok, mm_nz_ok, mm_bo_c, mm_bo_m0, mm_bo_m1, b01, Int.toNat_natCast, Int.reduceToNat, Int.reduceNeg, Int.reduceSub, Int.reduceAdd, Int.reduceMul, Int.reduceLT, Int.reduceLE, Int.reduceEq, ↓reduceIte, not_true, not_false_eq_true, not_true_eq_false, and_self, true_and, and_true, false_and, and_false, Decidable.not_not, stv1, stv2, stv3, stv4]
            repeat (first | rw [if_pos (by omega)] | rw [if_neg (by omega)])
            exact Like.mk rfl rfl (RX.addn n 0 m σ τ1 R1 hm1 c3 (fun j _ hj => c2 j (by omega)))
          · repeat (first | rw [if_pos (by omega)] | rw [if_neg (by omega)])
            simp (implicitDefEqProofs := false) (maxSteps := 1000000) (disch := omega) only [↓mm_lt_s, ↓cl_in, ↓cl_wi, ↓cl_has, ↓cl_isP, mL_le, lit_n, litL_n, mL_mI, mL_neg, mm_cl_s, mI_lt, mI_le, mI_eq, enc_at, enc_wr, enc_cp, mI_neg, mI_add, mI_sub, mI_mul, mI_ix, mm_ck_ok, mm_nz_ok, mm_bo_c, mm_bo_m0, mm_bo_m1, b01, Int.toNat_natCast, Int.reduceToNat, Int.reduceNeg, Int.reduceSub, Int.reduceAdd, Int.reduceMul, Int.reduceLT, Int.reduceLE, Int.reduceEq, ↓reduceIte, not_true, not_false_eq_true, not_true_eq_false, and_self, true_and, and_true, false_and, and_false, Decidable.not_not, stv1, stv2, stv3, stv4]
            repeat (first | rw [if_pos (by omega)] | rw [if_neg (by omega)])
            refine Like.mk rfl rfl (h.cong (fun _ _ _ => rfl) (fun k j hk => ?_))
            rw [ifl_ne (by unfold keepM at hk; omega)]
        · have c3 : ∃ i', 0 ≤ i' ∧ i' < n ∧ ¬ rowOk (fun j => τ 27 (24 * s + f + 5 * i' + j)) := by
            refine Classical.byContradiction fun hc9 => c2 fun i hi => ?_
            refine Classical.byContradiction fun h9 => hc9 ⟨i, Nat.zero_le _, hi, h9⟩
          have c3x : ∃ i', 0 ≤ i' ∧ i' < n ∧ ¬ rowOk (fun j => σ (53 + s) (f + 5 * i' + j)) := by
            obtain ⟨i, q1, q2, q3⟩ := c3
            refine ⟨i, q1, q2, fun q4 => q3 fun j hj => ?_⟩
            have := q4 j hj
            dsimp only at *
            rw [← hcells i j q2 hj]; exact this
          rw [show mI 0 = mI ((0 : Nat) : Int) from rfl, crowdX_no hs (by omega) hf (fun b hb => by rw [(d4 b hb).1]; exact (d4 b hb).2) n 0 NF (by omega) (by omega) c3x]
          obtain ⟨τ', p1, p2⟩ := crowdM_no (K0 := fun m14 => some (mI (-2), m14)) (K1 := fun m10 => if m10 0 1 + mI n ≤ mI 10 then mm_cl (fX7_addRead (mm_wr m10 0 7 (mI n))) (fun _ m13 => some (mI n, m13)) else some (mI (-3), m10)) (z := fun _ _ => none) hs (by omega) hf n 0 NF τ (by omega) (by omega) (fun b hb => (d4 b hb).2) c3
          rw [p2]
          exact Like.mk rfl rfl (h.cong (fun _ _ _ => rfl) (fun k j hk => p1 k j (by unfold keepM at hk; omega)))
      · repeat (first | rw [if_pos (by omega)] | rw [if_neg (by omega)])
        exact Like.mk rfl rfl h
    · have e1 := r3 c0
      subst e1
      simp (implicitDefEqProofs := false) (maxSteps := 1000000) (disch := omega) only [hx1, hx2, hx3, c0, ↓mm_lt_s, ↓cl_in, ↓cl_wi, ↓cl_has, ↓cl_isP, mL_le, lit_n, litL_n, mL_mI, mL_neg, mm_cl_s, mI_lt, mI_le, mI_eq, enc_at, enc_wr, enc_cp, mI_neg, mI_add, mI_sub, mI_mul, mI_ix, mm_ck_ok, mm_nz_ok, mm_bo_c, mm_bo_m0, mm_bo_m1, b01, Int.toNat_natCast, Int.reduceToNat, Int.reduceNeg, Int.reduceSub, Int.reduceAdd, Int.reduceMul, Int.reduceLT, Int.reduceLE, Int.reduceEq, ↓reduceIte, not_true, not_false_eq_true, not_true_eq_false, and_self, true_and, and_true, false_and, and_false, Decidable.not_not, stv1, stv2, stv3, stv4]
      rw [r1]
      simp (implicitDefEqProofs := false) (maxSteps := 1000000) (disch := omega) only [↓mm_lt_s, ↓cl_in, ↓cl_wi, ↓cl_has, ↓cl_isP, mL_le, lit_n, litL_n, mL_mI, mL_neg, mm_cl_s, mI_lt, mI_le, mI_eq, enc_at, enc_wr, enc_cp, mI_neg, mI_add, mI_sub, mI_mul, mI_ix, mm_ck_ok, mm_nz_ok, mm_bo_c, mm_bo_m0, mm_bo_m1, b01, Int.toNat_natCast, Int.reduceToNat, Int.reduceNeg, Int.reduceSub, Int.reduceAdd, Int.reduceMul, Int.reduceLT, Int.reduceLE, Int.reduceEq, ↓reduceIte, not_true, not_false_eq_true, not_true_eq_false, and_self, true_and, and_true, false_and, and_false, Decidable.not_not, stv1, stv2, stv3, stv4]
      exact Like.mk rfl rfl h
  · exact crowdBad h a b c d ha hb hc hd hx
