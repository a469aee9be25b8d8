/-! soonest: the next companies -/
def mxR (r : Nat → Nat) : Nat → Nat
  | 0 => 0
  | d + 1 => if mxR r d < r d then r d else mxR r d
theorem mxR_lt {r : Nat → Nat} {n : Nat} (hn : 0 < n) : ∀ d, (∀ k, k < d → r k < n) → mxR r d < n
  | 0, _ => hn
  | d + 1, h => by
    have := mxR_lt hn d (fun k hk => h k (by omega))
    have := h d (by omega)
    unfold mxR
    split <;> omega
def fdC (r : Nat → Nat) : Nat → Option Nat
  | 0 => none
  | i + 1 => if r (i + 1) ≤ mxR r (i + 1) then some (i + 1) else fdC r i
def nxC (n : Nat) (r : Nat → Nat) : Option (Nat → Nat) := match fdC r (n - 1) with
  | none => none
  | some i => some (fun k => if k = i then r i + 1 else if i < k then 0 else r k)
theorem fdC_le {r : Nat → Nat} : ∀ i j, fdC r i = some j → 1 ≤ j ∧ j ≤ i
  | 0, j, h => by cases h
  | i + 1, j, h => by
    unfold fdC at h
    split at h
    · cases h
      omega
    · have := fdC_le i j h
      omega
theorem mosX_L {K : Int32 → Mm → Aa} {z : Int32 → Int32 → Mm → Aa} {n i : Nat} {r : Nat → Nat} {σ : IM} (hn : n ≤ 6) (hi : i ≤ n) (hr : ∀ k, k < n → σ 47 k = (r k : Int) ∧ r k < n) : ∀ (d k N : Nat), k + d = i → d < N → mm_lk z (fX1_mostAhead_L4 (mI i) K) N (mI (mxR r k)) (mI k) (enc σ) = K (mI (mxR r i)) (enc σ)
  | d, k, 0, _, h => absurd h (Nat.not_lt_zero d)
  | 0, k, N + 1, h, _ => by
    have e : k = i := by omega
    subst e
    rw [mm_lk_s, fX1_mostAhead_L4]
    simp (implicitDefEqProofs := false) (maxSteps := 1000000) (disch := omega) only [↓mm_lt_s, ↓cl_in, ↓cl_wi, ↓cl_has, ↓cl_isP, mL_le, lit_n, litL_n, mL_mI, mL_neg, mm_cl_s, mI_lt, mI_le, mI_eq, enc_at, enc_wr, enc_cp, mI_neg, mI_add, mI_sub, mI_mul, mI_ix, mm_ck_ok, mm_nz_ok, mm_bo_c, mm_bo_m0, mm_bo_m1, b01, Int.toNat_natCast, Int.reduceToNat, Int.reduceNeg, Int.reduceSub, Int.reduceAdd, Int.reduceMul, Int.reduceLT, Int.reduceLE, Int.reduceEq, ↓reduceIte, not_true, not_false_eq_true, not_true_eq_false, and_self, true_and, and_true, false_and, and_false, Decidable.not_not, stv1, stv2, stv3, stv4]
    repeat (first | rw [if_pos (by omega)] | rw [if_neg (by omega)])
  | d + 1, k, N + 1, h, h2 => by
    obtain ⟨r1, r2⟩ := hr k (by omega)
    have mb : k = 0 ∨ mxR r k < n := by
      by_cases c : k = 0
      · exact Or.inl c
      · exact Or.inr (mxR_lt (by omega) k (fun q hq => (hr q (by omega)).2))
    have mb2 : mxR r k ≤ 6 := by
      rcases mb with c | c
      · subst c
        exact Nat.zero_le _
      · omega
    have c1 : ¬ (i : Int) ≤ (k : Int) := by omega
    have ih := mosX_L (K := K) (z := z) hn hi hr d (k + 1) N (by omega) (by omega)
    have e : mxR r (k + 1) = if mxR r k < r k then r k else mxR r k := rfl
    rw [← ih, e, mm_lk_s, fX1_mostAhead_L4]
    by_cases c : mxR r k < r k
    · have c' : (mxR r k : Int) < (r k : Int) := by omega
      rw [if_pos c]
      simp (implicitDefEqProofs := false) (maxSteps := 1000000) (disch := omega) only [c1, r1, c', cast_s, ↓mm_lt_s, ↓cl_in, ↓cl_wi, ↓cl_has, ↓cl_isP, mL_le, lit_n, litL_n, mL_mI, mL_neg, mm_cl_s, mI_lt, mI_le, mI_eq, enc_at, enc_wr, enc_cp, mI_neg, mI_add, mI_sub, mI_mul, mI_ix, mm_ck_ok, mm_nz_ok, mm_bo_c, mm_bo_m0, mm_bo_m1, b01, Int.toNat_natCast, Int.reduceToNat, Int.reduceNeg, Int.reduceSub, Int.reduceAdd, Int.reduceMul, Int.reduceLT, Int.reduceLE, Int.reduceEq, ↓reduceIte, not_true, not_false_eq_true, not_true_eq_false, and_self, true_and, and_true, false_and, and_false, Decidable.not_not, stv1, stv2, stv3, stv4]
    · have c' : ¬ (mxR r k : Int) < (r k : Int) := by omega
      rw [if_neg c]
      simp (implicitDefEqProofs := false) (maxSteps := 1000000) (disch := omega) only [c1, r1, c', cast_s, ↓mm_lt_s, ↓cl_in, ↓cl_wi, ↓cl_has, ↓cl_isP, mL_le, lit_n, litL_n, mL_mI, mL_neg, mm_cl_s, mI_lt, mI_le, mI_eq, enc_at, enc_wr, enc_cp, mI_neg, mI_add, mI_sub, mI_mul, mI_ix, mm_ck_ok, mm_nz_ok, mm_bo_c, mm_bo_m0, mm_bo_m1, b01, Int.toNat_natCast, Int.reduceToNat, Int.reduceNeg, Int.reduceSub, Int.reduceAdd, Int.reduceMul, Int.reduceLT, Int.reduceLE, Int.reduceEq, ↓reduceIte, not_true, not_false_eq_true, not_true_eq_false, and_self, true_and, and_true, false_and, and_false, Decidable.not_not, stv1, stv2, stv3, stv4]
theorem mosX {n i : Nat} {r : Nat → Nat} {σ : IM} (hn : n ≤ 6) (hi : i ≤ n) (hr : ∀ k, k < n → σ 47 k = (r k : Int) ∧ r k < n) : fX1_mostAhead (mI i) (enc σ) = some (mI (mxR r i), enc σ) := by
  unfold fX1_mostAhead
  generalize hfu : mm_fu = NF; have hNF : 4096 ≤ NF := by rw [← hfu]; exact Nat.le_refl _
  simp (implicitDefEqProofs := false) (maxSteps := 1000000) (disch := omega) only [↓mm_lt_s, ↓cl_in, ↓cl_wi, ↓cl_has, ↓cl_isP, mL_le, lit_n, litL_n, mL_mI, mL_neg, mm_cl_s, mI_lt, mI_le, mI_eq, enc_at, enc_wr, enc_cp, mI_neg, mI_add, mI_sub, mI_mul, mI_ix, mm_ck_ok, mm_nz_ok, mm_bo_c, mm_bo_m0, mm_bo_m1, b01, Int.toNat_natCast, Int.reduceToNat, Int.reduceNeg, Int.reduceSub, Int.reduceAdd, Int.reduceMul, Int.reduceLT, Int.reduceLE, Int.reduceEq, ↓reduceIte, not_true, not_false_eq_true, not_true_eq_false, and_self, true_and, and_true, false_and, and_false, Decidable.not_not, stv1, stv2, stv3, stv4]
  have E := mosX_L (K := fun x3 m4 => some (x3, m4)) (z := fun _ _ _ => none) hn hi hr i 0 NF (by omega) (by omega)
  rw [show ((mxR r 0 : Nat) : Int) = 0 from rfl, cast0] at E
  exact E
theorem nxcX_L {K25 : Int32 → Mm → Aa} {K68 : Mm → Aa} {z : Int32 → Mm → Aa} {n : Nat} {r : Nat → Nat} {σ : IM} (hn : n ≤ 6) (hr : ∀ k, k < n → σ 47 k = (r k : Int) ∧ r k < n) : ∀ (i N : Nat), i < n → i < N → mm_lk z (fX1_makeNextCompanies_L7 K25 K68) N (mI i) (enc σ) = (match fdC r i with | none => K68 (enc σ) | some j => K25 (mI (j : Int)) (enc σ))
  | i, 0, _, h => absurd h (Nat.not_lt_zero i)
  | 0, N + 1, _, _ => by
    rw [cast0, mm_lk_s, fX1_makeNextCompanies_L7]
    simp (implicitDefEqProofs := false) (maxSteps := 1000000) (disch := omega) only [↓mm_lt_s, ↓cl_in, ↓cl_wi, ↓cl_has, ↓cl_isP, mL_le, lit_n, litL_n, mL_mI, mL_neg, mm_cl_s, mI_lt, mI_le, mI_eq, enc_at, enc_wr, enc_cp, mI_neg, mI_add, mI_sub, mI_mul, mI_ix, mm_ck_ok, mm_nz_ok, mm_bo_c, mm_bo_m0, mm_bo_m1, b01, Int.toNat_natCast, Int.reduceToNat, Int.reduceNeg, Int.reduceSub, Int.reduceAdd, Int.reduceMul, Int.reduceLT, Int.reduceLE, Int.reduceEq, ↓reduceIte, not_true, not_false_eq_true, not_true_eq_false, and_self, true_and, and_true, false_and, and_false, Decidable.not_not, stv1, stv2, stv3, stv4]
    rfl
  | i + 1, N + 1, hi, h2 => by
    have M := mosX (i := i + 1) hn (by omega) hr
    obtain ⟨r1, r2⟩ := hr (i + 1) hi
    have mb := mxR_lt (r := r) (n := n) (by omega) (i + 1) (fun q hq => (hr q (by omega)).2)
    have c1 : ¬ ((i + 1 : Nat) : Int) ≤ 0 := by omega
    have e : fdC r (i + 1) = if r (i + 1) ≤ mxR r (i + 1) then some (i + 1) else fdC r i := rfl
    have em : ((i + 1 : Nat) : Int) + -1 = (i : Int) := by omega
    rw [e]
    by_cases c : r (i + 1) ≤ mxR r (i + 1)
    · have c' : ¬ (mxR r (i + 1) : Int) < (r (i + 1) : Int) := by omega
      rw [if_pos c, mm_lk_s, fX1_makeNextCompanies_L7]
      simp (implicitDefEqProofs := false) (maxSteps := 1000000) (disch := omega) only [c1, ↓mm_lt_s, ↓cl_in, ↓cl_wi, ↓cl_has, ↓cl_isP, mL_le, lit_n, litL_n, mL_mI, mL_neg, mm_cl_s, mI_lt, mI_le, mI_eq, enc_at, enc_wr, enc_cp, mI_neg, mI_add, mI_sub, mI_mul, mI_ix, mm_ck_ok, mm_nz_ok, mm_bo_c, mm_bo_m0, mm_bo_m1, b01, Int.toNat_natCast, Int.reduceToNat, Int.reduceNeg, Int.reduceSub, Int.reduceAdd, Int.reduceMul, Int.reduceLT, Int.reduceLE, Int.reduceEq, ↓reduceIte, not_true, not_false_eq_true, not_true_eq_false, and_self, true_and, and_true, false_and, and_false, Decidable.not_not, stv1, stv2, stv3, stv4]
      rw [M]
      simp (implicitDefEqProofs := false) (maxSteps := 1000000) (disch := omega) only [r1, c', ↓mm_lt_s, ↓cl_in, ↓cl_wi, ↓cl_has, ↓cl_isP, mL_le, lit_n, litL_n, mL_mI, mL_neg, mm_cl_s, mI_lt, mI_le, mI_eq, enc_at, enc_wr, enc_cp, mI_neg, mI_add, mI_sub, mI_mul, mI_ix, mm_ck_ok, mm_nz_ok, mm_bo_c, mm_bo_m0, mm_bo_m1, b01, Int.toNat_natCast, Int.reduceToNat, Int.reduceNeg, Int.reduceSub, Int.reduceAdd, Int.reduceMul, Int.reduceLT, Int.reduceLE, Int.reduceEq, ↓reduceIte, not_true, not_false_eq_true, not_true_eq_false, and_self, true_and, and_true, false_and, and_false, Decidable.not_not, stv1, stv2, stv3, stv4]
    · have c' : (mxR r (i + 1) : Int) < (r (i + 1) : Int) := by omega
      rw [if_neg c, ← nxcX_L (K25 := K25) (K68 := K68) (z := z) hn hr i N (by omega) (by omega), mm_lk_s, fX1_makeNextCompanies_L7]
      simp (implicitDefEqProofs := false) (maxSteps := 1000000) (disch := omega) only [c1, ↓mm_lt_s, ↓cl_in, ↓cl_wi, ↓cl_has, ↓cl_isP, mL_le, lit_n, litL_n, mL_mI, mL_neg, mm_cl_s, mI_lt, mI_le, mI_eq, enc_at, enc_wr, enc_cp, mI_neg, mI_add, mI_sub, mI_mul, mI_ix, mm_ck_ok, mm_nz_ok, mm_bo_c, mm_bo_m0, mm_bo_m1, b01, Int.toNat_natCast, Int.reduceToNat, Int.reduceNeg, Int.reduceSub, Int.reduceAdd, Int.reduceMul, Int.reduceLT, Int.reduceLE, Int.reduceEq, ↓reduceIte, not_true, not_false_eq_true, not_true_eq_false, and_self, true_and, and_true, false_and, and_false, Decidable.not_not, stv1, stv2, stv3, stv4]
      rw [M]
      simp (implicitDefEqProofs := false) (maxSteps := 1000000) (disch := omega) only [r1, c', em, ↓mm_lt_s, ↓cl_in, ↓cl_wi, ↓cl_has, ↓cl_isP, mL_le, lit_n, litL_n, mL_mI, mL_neg, mm_cl_s, mI_lt, mI_le, mI_eq, enc_at, enc_wr, enc_cp, mI_neg, mI_add, mI_sub, mI_mul, mI_ix, mm_ck_ok, mm_nz_ok, mm_bo_c, mm_bo_m0, mm_bo_m1, b01, Int.toNat_natCast, Int.reduceToNat, Int.reduceNeg, Int.reduceSub, Int.reduceAdd, Int.reduceMul, Int.reduceLT, Int.reduceLE, Int.reduceEq, ↓reduceIte, not_true, not_false_eq_true, not_true_eq_false, and_self, true_and, and_true, false_and, and_false, Decidable.not_not, stv1, stv2, stv3, stv4]
theorem zerX_L {K : Mm → Aa} {z : Int32 → Mm → Aa} {n : Nat} (hn : n ≤ 6) : ∀ (d i N : Nat) (σ : IM), (i + d = n ∨ (n ≤ i ∧ d = 0)) → i ≤ 7 → d < N → σ 44 0 = (n : Int) → mm_lk z (fX1_makeNextCompanies_L39 K) N (mI i) (enc σ) = K (enc (ifl σ 47 i n (fun _ => 0)))
  | d, i, 0, σ, _, _, h, _ => absurd h (Nat.not_lt_zero d)
  | 0, i, N + 1, σ, h, h7, _, h0 => by
    rw [mm_lk_s, fX1_makeNextCompanies_L39, ifl_nil (by omega)]
    simp (implicitDefEqProofs := false) (maxSteps := 1000000) (disch := omega) only [h0, ↓mm_lt_s, ↓cl_in, ↓cl_wi, ↓cl_has, ↓cl_isP, mL_le, lit_n, litL_n, mL_mI, mL_neg, mm_cl_s, mI_lt, mI_le, mI_eq, enc_at, enc_wr, enc_cp, mI_neg, mI_add, mI_sub, mI_mul, mI_ix, mm_ck_ok, mm_nz_ok, mm_bo_c, mm_bo_m0, mm_bo_m1, b01, Int.toNat_natCast, Int.reduceToNat, Int.reduceNeg, Int.reduceSub, Int.reduceAdd, Int.reduceMul, Int.reduceLT, Int.reduceLE, Int.reduceEq, ↓reduceIte, not_true, not_false_eq_true, not_true_eq_false, and_self, true_and, and_true, false_and, and_false, Decidable.not_not, stv1, stv2, stv3, stv4]
    repeat (first | rw [if_pos (by omega)] | rw [if_neg (by omega)])
  | d + 1, i, N + 1, σ, h, h7, h2, h0 => by
    have c1 : ¬ (n : Int) ≤ (i : Int) := by omega
    rw [← ifl_step (f := fun _ => (0 : Int)) (v := 0) (show i < n by omega) rfl, ← zerX_L (K := K) (z := z) hn d (i + 1) N _ (by omega) (by omega) (by omega) (by rw [iw_ne (by omega)]; exact h0), mm_lk_s, fX1_makeNextCompanies_L39]
    simp (implicitDefEqProofs := false) (maxSteps := 1000000) (disch := omega) only [h0, c1, cast_s, ↓mm_lt_s, ↓cl_in, ↓cl_wi, ↓cl_has, ↓cl_isP, mL_le, lit_n, litL_n, mL_mI, mL_neg, mm_cl_s, mI_lt, mI_le, mI_eq, enc_at, enc_wr, enc_cp, mI_neg, mI_add, mI_sub, mI_mul, mI_ix, mm_ck_ok, mm_nz_ok, mm_bo_c, mm_bo_m0, mm_bo_m1, b01, Int.toNat_natCast, Int.reduceToNat, Int.reduceNeg, Int.reduceSub, Int.reduceAdd, Int.reduceMul, Int.reduceLT, Int.reduceLE, Int.reduceEq, ↓reduceIte, not_true, not_false_eq_true, not_true_eq_false, and_self, true_and, and_true, false_and, and_false, Decidable.not_not, stv1, stv2, stv3, stv4]
theorem nxcX {n : Nat} {r : Nat → Nat} {σ : IM} (hn : 1 ≤ n ∧ n ≤ 6) (h0 : σ 44 0 = (n : Int)) (hr : ∀ k, k < n → σ 47 k = (r k : Int) ∧ r k < n) : fX1_makeNextCompanies (enc σ) = (match fdC r (n - 1) with | none => some (mI 0, enc σ) | some j => some (mI 1, enc (ifl (iw σ 47 j ((r j : Int) + 1)) 47 (j + 1) n (fun _ => 0)))) := by
  have e1 : (n : Int) - 1 = ((n - 1 : Nat) : Int) := by omega
  have L := fun K25 K68 z NF (hNF : n < NF) => nxcX_L (K25 := K25) (K68 := K68) (z := z) hn.2 hr (n - 1) NF (by omega) (by omega)
  unfold fX1_makeNextCompanies
  generalize hfu : mm_fu = NF; have hNF : 4096 ≤ NF := by rw [← hfu]; exact Nat.le_refl _
  simp (implicitDefEqProofs := false) (maxSteps := 1000000) (disch := omega) only [h0, e1, ↓mm_lt_s, ↓cl_in, ↓cl_wi, ↓cl_has, ↓cl_isP, mL_le, lit_n, litL_n, mL_mI, mL_neg, mm_cl_s, mI_lt, mI_le, mI_eq, enc_at, enc_wr, enc_cp, mI_neg, mI_add, mI_sub, mI_mul, mI_ix, mm_ck_ok, mm_nz_ok, mm_bo_c, mm_bo_m0, mm_bo_m1, b01, Int.toNat_natCast, Int.reduceToNat, Int.reduceNeg, Int.reduceSub, Int.reduceAdd, Int.reduceMul, Int.reduceLT, Int.reduceLE, Int.reduceEq, ↓reduceIte, not_true, not_false_eq_true, not_true_eq_false, and_self, true_and, and_true, false_and, and_false, Decidable.not_not, stv1, stv2, stv3, stv4]
  rw [L _ _ _ NF (by omega)]
  cases hf : fdC r (n - 1) with
  | none =>
    simp (implicitDefEqProofs := false) (maxSteps := 1000000) (disch := omega) only [↓mm_lt_s, ↓cl_in, ↓cl_wi, ↓cl_has, ↓cl_isP, mL_le, lit_n, litL_n, mL_mI, mL_neg, mm_cl_s, mI_lt, mI_le, mI_eq, enc_at, enc_wr, enc_cp, mI_neg, mI_add, mI_sub, mI_mul, mI_ix, mm_ck_ok, mm_nz_ok, mm_bo_c, mm_bo_m0, mm_bo_m1, b01, Int.toNat_natCast, Int.reduceToNat, Int.reduceNeg, Int.reduceSub, Int.reduceAdd, Int.reduceMul, Int.reduceLT, Int.reduceLE, Int.reduceEq, ↓reduceIte, not_true, not_false_eq_true, not_true_eq_false, and_self, true_and, and_true, false_and, and_false, Decidable.not_not, stv1, stv2, stv3, stv4]
  | some j =>
    have jb := fdC_le _ _ hf
    obtain ⟨r1, r2⟩ := hr j (by omega)
    have Z := fun K z => zerX_L (K := K) (z := z) hn.2 (n - (j + 1)) (j + 1) NF (iw σ 47 j ((r j : Int) + 1)) (by omega) (by omega) (by omega) (by rw [iw_ne (by omega)]; exact h0)
    simp (implicitDefEqProofs := false) (maxSteps := 1000000) (disch := omega) only [r1, cast_s, ↓mm_lt_s, ↓cl_in, ↓cl_wi, ↓cl_has, ↓cl_isP, mL_le, lit_n, litL_n, mL_mI, mL_neg, mm_cl_s, mI_lt, mI_le, mI_eq, enc_at, enc_wr, enc_cp, mI_neg, mI_add, mI_sub, mI_mul, mI_ix, mm_ck_ok, mm_nz_ok, mm_bo_c, mm_bo_m0, mm_bo_m1, b01, Int.toNat_natCast, Int.reduceToNat, Int.reduceNeg, Int.reduceSub, Int.reduceAdd, Int.reduceMul, Int.reduceLT, Int.reduceLE, Int.reduceEq, ↓reduceIte, not_true, not_false_eq_true, not_true_eq_false, and_self, true_and, and_true, false_and, and_false, Decidable.not_not, stv1, stv2, stv3, stv4]
    rw [← cast_s] at Z
    rw [cast_s] at Z
    rw [show ((r j + 1 : Nat) : Int) = (r j : Int) + 1 by omega]
    rw [Z]
/-- the reference's -/
theorem mosM_L {K : Int32 → Mm → Aa} {z : Int32 → Int32 → Mm → Aa} {n i : Nat} {r : Nat → Nat} {τ : IM} (hn : n ≤ 6) (hi : i ≤ n) (hr : ∀ k, k < n → τ 20 k = (r k : Int) ∧ r k < n) : ∀ (d k N : Nat), k + d = i → d < N → mm_lk z (fX7_nextRow_L15 (mI i) K) N (mI (mxR r k)) (mI k) (enc τ) = K (mI (mxR r i)) (enc τ)
  | d, k, 0, _, h => absurd h (Nat.not_lt_zero d)
  | 0, k, N + 1, h, _ => by
    have e : k = i := by omega
    subst e
    rw [mm_lk_s, fX7_nextRow_L15]
    simp (implicitDefEqProofs := false) (maxSteps := 1000000) (disch := omega) only [↓mm_lt_s, ↓cl_in, ↓cl_wi, ↓cl_has, ↓cl_isP, mL_le, lit_n, litL_n, mL_mI, mL_neg, mm_cl_s, mI_lt, mI_le, mI_eq, enc_at, enc_wr, enc_cp, mI_neg, mI_add, mI_sub, mI_mul, mI_ix, mm_ck_ok, mm_nz_ok, mm_bo_c, mm_bo_m0, mm_bo_m1, b01, Int.toNat_natCast, Int.reduceToNat, Int.reduceNeg, Int.reduceSub, Int.reduceAdd, Int.reduceMul, Int.reduceLT, Int.reduceLE, Int.reduceEq, ↓reduceIte, not_true, not_false_eq_true, not_true_eq_false, and_self, true_and, and_true, false_and, and_false, Decidable.not_not, stv1, stv2, stv3, stv4]
    repeat (first | rw [if_pos (by omega)] | rw [if_neg (by omega)])
  | d + 1, k, N + 1, h, h2 => by
    obtain ⟨r1, r2⟩ := hr k (by omega)
    have mb2 : mxR r k ≤ 6 := by
      by_cases c : k = 0
      · subst c
        exact Nat.zero_le _
      · have := mxR_lt (r := r) (n := n) (by omega) k (fun q hq => (hr q (by omega)).2)
        omega
    have c1 : ¬ (i : Int) ≤ (k : Int) := by omega
    have ih := mosM_L (K := K) (z := z) hn hi hr d (k + 1) N (by omega) (by omega)
    have e : ((mxR r (k + 1) : Nat) : Int) = if (r k : Int) < (mxR r k : Int) then (mxR r k : Int) else (r k : Int) := by
      show (((if mxR r k < r k then r k else mxR r k) : Nat) : Int) = _
      split <;> split <;> omega
    rw [← ih, e, mm_lk_s, fX7_nextRow_L15]
    simp (implicitDefEqProofs := false) (maxSteps := 1000000) (disch := omega) only [c1, r1, most_s, cast_s, ↓mm_lt_s, ↓cl_in, ↓cl_wi, ↓cl_has, ↓cl_isP, mL_le, lit_n, litL_n, mL_mI, mL_neg, mm_cl_s, mI_lt, mI_le, mI_eq, enc_at, enc_wr, enc_cp, mI_neg, mI_add, mI_sub, mI_mul, mI_ix, mm_ck_ok, mm_nz_ok, mm_bo_c, mm_bo_m0, mm_bo_m1, b01, Int.toNat_natCast, Int.reduceToNat, Int.reduceNeg, Int.reduceSub, Int.reduceAdd, Int.reduceMul, Int.reduceLT, Int.reduceLE, Int.reduceEq, ↓reduceIte, not_true, not_false_eq_true, not_true_eq_false, and_self, true_and, and_true, false_and, and_false, Decidable.not_not, stv1, stv2, stv3, stv4]
theorem nxcM_L {K47 : Int32 → Mm → Aa} {K88 : Mm → Aa} {z : Int32 → Mm → Aa} {n : Nat} {r : Nat → Nat} {τ : IM} (hn : n ≤ 6) (hr : ∀ k, k < n → τ 20 k = (r k : Int) ∧ r k < n) : ∀ (i N : Nat), i < n → i < N → mm_lk z (fX7_nextRow_L7 K47 K88) N (mI i) (enc τ) = (match fdC r i with | none => K88 (enc τ) | some j => K47 (mI (j : Int)) (enc τ))
  | i, 0, _, h => absurd h (Nat.not_lt_zero i)
  | 0, N + 1, _, _ => by
    rw [cast0, mm_lk_s, fX7_nextRow_L7]
    simp (implicitDefEqProofs := false) (maxSteps := 1000000) (disch := omega) only [↓mm_lt_s, ↓cl_in, ↓cl_wi, ↓cl_has, ↓cl_isP, mL_le, lit_n, litL_n, mL_mI, mL_neg, mm_cl_s, mI_lt, mI_le, mI_eq, enc_at, enc_wr, enc_cp, mI_neg, mI_add, mI_sub, mI_mul, mI_ix, mm_ck_ok, mm_nz_ok, mm_bo_c, mm_bo_m0, mm_bo_m1, b01, Int.toNat_natCast, Int.reduceToNat, Int.reduceNeg, Int.reduceSub, Int.reduceAdd, Int.reduceMul, Int.reduceLT, Int.reduceLE, Int.reduceEq, ↓reduceIte, not_true, not_false_eq_true, not_true_eq_false, and_self, true_and, and_true, false_and, and_false, Decidable.not_not, stv1, stv2, stv3, stv4]
    rfl
  | i + 1, N + 1, hi, h2 => by
    have M := fun K z NF (hNF : n < NF) => mosM_L (K := K) (z := z) (i := i + 1) hn (by omega) hr (i + 1) 0 NF (by omega) (by omega)
    rw [show ((mxR r 0 : Nat) : Int) = 0 from rfl, cast0] at M
    obtain ⟨r1, r2⟩ := hr (i + 1) hi
    have mb := mxR_lt (r := r) (n := n) (by omega) (i + 1) (fun q hq => (hr q (by omega)).2)
    have c1 : ¬ ((i + 1 : Nat) : Int) ≤ 0 := by omega
    have e : fdC r (i + 1) = if r (i + 1) ≤ mxR r (i + 1) then some (i + 1) else fdC r i := rfl
    have em : ((i + 1 : Nat) : Int) + -1 = (i : Int) := by omega
    rw [e]
    by_cases c : r (i + 1) ≤ mxR r (i + 1)
    · have c' : ¬ (mxR r (i + 1) : Int) < (r (i + 1) : Int) := by omega
      rw [if_pos c, mm_lk_s, fX7_nextRow_L7]
      generalize hfu : mm_fu = NF; have hNF : 4096 ≤ NF := by rw [← hfu]; exact Nat.le_refl _
      simp (implicitDefEqProofs := false) (maxSteps := 1000000) (disch := omega) only [c1, ↓mm_lt_s, ↓cl_in, ↓cl_wi, ↓cl_has, ↓cl_isP, mL_le, lit_n, litL_n, mL_mI, mL_neg, mm_cl_s, mI_lt, mI_le, mI_eq, enc_at, enc_wr, enc_cp, mI_neg, mI_add, mI_sub, mI_mul, mI_ix, mm_ck_ok, mm_nz_ok, mm_bo_c, mm_bo_m0, mm_bo_m1, b01, Int.toNat_natCast, Int.reduceToNat, Int.reduceNeg, Int.reduceSub, Int.reduceAdd, Int.reduceMul, Int.reduceLT, Int.reduceLE, Int.reduceEq, ↓reduceIte, not_true, not_false_eq_true, not_true_eq_false, and_self, true_and, and_true, false_and, and_false, Decidable.not_not, stv1, stv2, stv3, stv4]
      rw [M _ _ NF (by omega)]
      simp (implicitDefEqProofs := false) (maxSteps := 1000000) (disch := omega) only [r1, c', ↓mm_lt_s, ↓cl_in, ↓cl_wi, ↓cl_has, ↓cl_isP, mL_le, lit_n, litL_n, mL_mI, mL_neg, mm_cl_s, mI_lt, mI_le, mI_eq, enc_at, enc_wr, enc_cp, mI_neg, mI_add, mI_sub, mI_mul, mI_ix, mm_ck_ok, mm_nz_ok, mm_bo_c, mm_bo_m0, mm_bo_m1, b01, Int.toNat_natCast, Int.reduceToNat, Int.reduceNeg, Int.reduceSub, Int.reduceAdd, Int.reduceMul, Int.reduceLT, Int.reduceLE, Int.reduceEq, ↓reduceIte, not_true, not_false_eq_true, not_true_eq_false, and_self, true_and, and_true, false_and, and_false, Decidable.not_not, stv1, stv2, stv3, stv4]
    · have c' : (mxR r (i + 1) : Int) < (r (i + 1) : Int) := by omega
      rw [if_neg c, ← nxcM_L (K47 := K47) (K88 := K88) (z := z) hn hr i N (by omega) (by omega), mm_lk_s, fX7_nextRow_L7]
      generalize hfu : mm_fu = NF; have hNF : 4096 ≤ NF := by rw [← hfu]; exact Nat.le_refl _
      simp (implicitDefEqProofs := false) (maxSteps := 1000000) (disch := omega) only [c1, ↓mm_lt_s, ↓cl_in, ↓cl_wi, ↓cl_has, ↓cl_isP, mL_le, lit_n, litL_n, mL_mI, mL_neg, mm_cl_s, mI_lt, mI_le, mI_eq, enc_at, enc_wr, enc_cp, mI_neg, mI_add, mI_sub, mI_mul, mI_ix, mm_ck_ok, mm_nz_ok, mm_bo_c, mm_bo_m0, mm_bo_m1, b01, Int.toNat_natCast, Int.reduceToNat, Int.reduceNeg, Int.reduceSub, Int.reduceAdd, Int.reduceMul, Int.reduceLT, Int.reduceLE, Int.reduceEq, ↓reduceIte, not_true, not_false_eq_true, not_true_eq_false, and_self, true_and, and_true, false_and, and_false, Decidable.not_not, stv1, stv2, stv3, stv4]
      rw [M _ _ NF (by omega)]
      simp (implicitDefEqProofs := false) (maxSteps := 1000000) (disch := omega) only [r1, c', em, ↓mm_lt_s, ↓cl_in, ↓cl_wi, ↓cl_has, ↓cl_isP, mL_le, lit_n, litL_n, mL_mI, mL_neg, mm_cl_s, mI_lt, mI_le, mI_eq, enc_at, enc_wr, enc_cp, mI_neg, mI_add, mI_sub, mI_mul, mI_ix, mm_ck_ok, mm_nz_ok, mm_bo_c, mm_bo_m0, mm_bo_m1, b01, Int.toNat_natCast, Int.reduceToNat, Int.reduceNeg, Int.reduceSub, Int.reduceAdd, Int.reduceMul, Int.reduceLT, Int.reduceLE, Int.reduceEq, ↓reduceIte, not_true, not_false_eq_true, not_true_eq_false, and_self, true_and, and_true, false_and, and_false, Decidable.not_not, stv1, stv2, stv3, stv4]
theorem zerM_L {K : Mm → Aa} {z : Int32 → Mm → Aa} : ∀ (d i N : Nat) (τ : IM), i + d = 6 → d < N → mm_lk z (fX7_nextRow_L61 K) N (mI i) (enc τ) = K (enc (ifl τ 20 i 6 (fun _ => 0)))
  | d, i, 0, τ, _, h => absurd h (Nat.not_lt_zero d)
  | 0, i, N + 1, τ, h, _ => by
    rw [mm_lk_s, fX7_nextRow_L61, ifl_nil (by omega)]
    simp (implicitDefEqProofs := false) (maxSteps := 1000000) (disch := omega) only [↓mm_lt_s, ↓cl_in, ↓cl_wi, ↓cl_has, ↓cl_isP, mL_le, lit_n, litL_n, mL_mI, mL_neg, mm_cl_s, mI_lt, mI_le, mI_eq, enc_at, enc_wr, enc_cp, mI_neg, mI_add, mI_sub, mI_mul, mI_ix, mm_ck_ok, mm_nz_ok, mm_bo_c, mm_bo_m0, mm_bo_m1, b01, Int.toNat_natCast, Int.reduceToNat, Int.reduceNeg, Int.reduceSub, Int.reduceAdd, Int.reduceMul, Int.reduceLT, Int.reduceLE, Int.reduceEq, ↓reduceIte, not_true, not_false_eq_true, not_true_eq_false, and_self, true_and, and_true, false_and, and_false, Decidable.not_not, stv1, stv2, stv3, stv4]
    repeat (first | rw [if_pos (by omega)] | rw [if_neg (by omega)])
  | d + 1, i, N + 1, τ, h, h2 => by
    have c1 : ¬ (6 : Int) ≤ (i : Int) := by omega
    rw [← ifl_step (f := fun _ => (0 : Int)) (v := 0) (show i < 6 by omega) rfl, ← zerM_L (K := K) (z := z) d (i + 1) N _ (by omega) (by omega), mm_lk_s, fX7_nextRow_L61]
    simp (implicitDefEqProofs := false) (maxSteps := 1000000) (disch := omega) only [c1, cast_s, ↓mm_lt_s, ↓cl_in, ↓cl_wi, ↓cl_has, ↓cl_isP, mL_le, lit_n, litL_n, mL_mI, mL_neg, mm_cl_s, mI_lt, mI_le, mI_eq, enc_at, enc_wr, enc_cp, mI_neg, mI_add, mI_sub, mI_mul, mI_ix, mm_ck_ok, mm_nz_ok, mm_bo_c, mm_bo_m0, mm_bo_m1, b01, Int.toNat_natCast, Int.reduceToNat, Int.reduceNeg, Int.reduceSub, Int.reduceAdd, Int.reduceMul, Int.reduceLT, Int.reduceLE, Int.reduceEq, ↓reduceIte, not_true, not_false_eq_true, not_true_eq_false, and_self, true_and, and_true, false_and, and_false, Decidable.not_not, stv1, stv2, stv3, stv4]
theorem nxcM {n : Nat} {r : Nat → Nat} {τ : IM} (hn : 1 ≤ n ∧ n ≤ 6) (h29 : τ 0 29 = (n : Int)) (hr : ∀ k, k < n → τ 20 k = (r k : Int) ∧ r k < n) : fX7_nextRow (enc τ) = (match fdC r (n - 1) with | none => some (mI 0, enc τ) | some j => some (mI 1, enc (ifl (iw τ 20 j ((r j : Int) + 1)) 20 (j + 1) 6 (fun _ => 0)))) := by
  have e1 : (n : Int) - 1 = ((n - 1 : Nat) : Int) := by omega
  have L := fun K25 K68 z NF (hNF : n < NF) => nxcM_L (K47 := K25) (K88 := K68) (z := z) hn.2 hr (n - 1) NF (by omega) (by omega)
  unfold fX7_nextRow
  generalize hfu : mm_fu = NF; have hNF : 4096 ≤ NF := by rw [← hfu]; exact Nat.le_refl _
  simp (implicitDefEqProofs := false) (maxSteps := 1000000) (disch := omega) only [h29, e1, ↓mm_lt_s, ↓cl_in, ↓cl_wi, ↓cl_has, ↓cl_isP, mL_le, lit_n, litL_n, mL_mI, mL_neg, mm_cl_s, mI_lt, mI_le, mI_eq, enc_at, enc_wr, enc_cp, mI_neg, mI_add, mI_sub, mI_mul, mI_ix, mm_ck_ok, mm_nz_ok, mm_bo_c, mm_bo_m0, mm_bo_m1, b01, Int.toNat_natCast, Int.reduceToNat, Int.reduceNeg, Int.reduceSub, Int.reduceAdd, Int.reduceMul, Int.reduceLT, Int.reduceLE, Int.reduceEq, ↓reduceIte, not_true, not_false_eq_true, not_true_eq_false, and_self, true_and, and_true, false_and, and_false, Decidable.not_not, stv1, stv2, stv3, stv4]
  rw [L _ _ _ NF (by omega)]
  cases hf : fdC r (n - 1) with
  | none =>
    simp (implicitDefEqProofs := false) (maxSteps := 1000000) (disch := omega) only [↓mm_lt_s, ↓cl_in, ↓cl_wi, ↓cl_has, ↓cl_isP, mL_le, lit_n, litL_n, mL_mI, mL_neg, mm_cl_s, mI_lt, mI_le, mI_eq, enc_at, enc_wr, enc_cp, mI_neg, mI_add, mI_sub, mI_mul, mI_ix, mm_ck_ok, mm_nz_ok, mm_bo_c, mm_bo_m0, mm_bo_m1, b01, Int.toNat_natCast, Int.reduceToNat, Int.reduceNeg, Int.reduceSub, Int.reduceAdd, Int.reduceMul, Int.reduceLT, Int.reduceLE, Int.reduceEq, ↓reduceIte, not_true, not_false_eq_true, not_true_eq_false, and_self, true_and, and_true, false_and, and_false, Decidable.not_not, stv1, stv2, stv3, stv4]
  | some j =>
    have jb := fdC_le _ _ hf
    obtain ⟨r1, r2⟩ := hr j (by omega)
    have Z := fun K z => zerM_L (K := K) (z := z) (6 - (j + 1)) (j + 1) NF (iw τ 20 j ((r j : Int) + 1)) (by omega) (by omega)
    simp (implicitDefEqProofs := false) (maxSteps := 1000000) (disch := omega) only [r1, cast_s, ↓mm_lt_s, ↓cl_in, ↓cl_wi, ↓cl_has, ↓cl_isP, mL_le, lit_n, litL_n, mL_mI, mL_neg, mm_cl_s, mI_lt, mI_le, mI_eq, enc_at, enc_wr, enc_cp, mI_neg, mI_add, mI_sub, mI_mul, mI_ix, mm_ck_ok, mm_nz_ok, mm_bo_c, mm_bo_m0, mm_bo_m1, b01, Int.toNat_natCast, Int.reduceToNat, Int.reduceNeg, Int.reduceSub, Int.reduceAdd, Int.reduceMul, Int.reduceLT, Int.reduceLE, Int.reduceEq, ↓reduceIte, not_true, not_false_eq_true, not_true_eq_false, and_self, true_and, and_true, false_and, and_false, Decidable.not_not, stv1, stv2, stv3, stv4]
    rw [show ((r j + 1 : Nat) : Int) = (r j : Int) + 1 by omega]
    rw [Z]
/-- both have the same next companies -/
theorem nxcR {σ τ : IM} {n : Nat} {r : Nat → Nat} (hn : 1 ≤ n ∧ n ≤ 6) (h0 : σ 44 0 = (n : Int)) (h29 : τ 0 29 = (n : Int)) (hr : ∀ k, k < n → σ 47 k = (r k : Int) ∧ τ 20 k = (r k : Int) ∧ r k < n) : (nxC n r = none ∧ fX1_makeNextCompanies (enc σ) = some (mI 0, enc σ) ∧ fX7_nextRow (enc τ) = some (mI 0, enc τ)) ∨ ∃ (r' : Nat → Nat) (σ' τ' : IM), nxC n r = some r' ∧ fX1_makeNextCompanies (enc σ) = some (mI 1, enc σ') ∧ fX7_nextRow (enc τ) = some (mI 1, enc τ') ∧ (∀ k, k < n → σ' 47 k = (r' k : Int) ∧ τ' 20 k = (r' k : Int)) ∧ (∀ a b, a ≠ 47 → σ' a b = σ a b) ∧ (∀ a b, a ≠ 20 → τ' a b = τ a b) := by
  have X := nxcX hn h0 (fun k hk => ⟨(hr k hk).1, (hr k hk).2.2⟩)
  have M := nxcM hn h29 (fun k hk => (hr k hk).2)
  unfold nxC
  cases hf : fdC r (n - 1) with
  | none =>
    rw [hf] at X M
    exact Or.inl ⟨rfl, X, M⟩
  | some j =>
    rw [hf] at X M
    have jb := fdC_le _ _ hf
    refine Or.inr ⟨_, _, _, rfl, X, M, fun k hk => ?_, fun a b h => ?_, fun a b h => ?_⟩
    · by_cases c : k = j
      · subst c
        rw [ifl_ne (by omega), ifl_ne (by omega), iw_eq rfl rfl, iw_eq rfl rfl, if_pos rfl]
        omega
      · by_cases d : j < k
        · rw [ifl_in (by omega) hk, ifl_in (by omega) (by omega), if_neg c, if_pos d]
          exact ⟨rfl, rfl⟩
        · rw [ifl_ne (by omega), ifl_ne (by omega), iw_ne (by omega), iw_ne (by omega), if_neg c, if_neg d]
          exact ⟨(hr k hk).1, (hr k hk).2.1⟩
    · rw [ifl_ne (by omega), iw_ne (by omega)]
    · rw [ifl_ne (by omega), iw_ne (by omega)]
/-- all rows, by the kernel -/
def dg (c k : Nat) : Nat := c / 6 ^ k % 6
def en6 (r : Nat → Nat) : Nat := r 0 + 6 * (r 1 + 6 * (r 2 + 6 * (r 3 + 6 * (r 4 + 6 * r 5))))
theorem dg_en {r : Nat → Nat} (h0 : r 0 < 6) (h1 : r 1 < 6) (h2 : r 2 < 6) (h3 : r 3 < 6) (h4 : r 4 < 6) (h5 : r 5 < 6) (k : Nat) (hk : k < 6) : dg (en6 r) k = r k := by
  unfold dg en6
  have : k = 0 ∨ k = 1 ∨ k = 2 ∨ k = 3 ∨ k = 4 ∨ k = 5 := by omega
  rcases this with rfl | rfl | rfl | rfl | rfl | rfl
  · rw [show 6 ^ 0 = 1 from rfl]; omega
  · rw [show 6 ^ 1 = 6 from rfl]; omega
  · rw [show 6 ^ 2 = 36 from rfl]; omega
  · rw [show 6 ^ 3 = 216 from rfl]; omega
  · rw [show 6 ^ 4 = 1296 from rfl]; omega
  · rw [show 6 ^ 5 = 7776 from rfl]; omega
def ends (nx : (Nat → Nat) → Option (Nat → Nat)) (ok : (Nat → Nat) → Bool) : Nat → Nat → Bool
  | 0, _ => false
  | k + 1, c => ok (dg c) && (match nx (dg c) with
    | none => true
    | some r => (decide (r 0 < 6) && decide (r 1 < 6) && decide (r 2 < 6) && decide (r 3 < 6) && decide (r 4 < 6) && decide (r 5 < 6)) && ends nx ok k (en6 r))
def okC (n : Nat) (r : Nat → Nat) : Bool := (List.range n).all (fun k => decide (r k < n))
theorem ends_C : ∀ n, n < 7 → 1 ≤ n → ends (nxC n) (okC n) 1000 0 = true := by decide +kernel
