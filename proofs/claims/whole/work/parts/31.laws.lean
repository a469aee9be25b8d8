def lawLt (j : Nat) : Int := [103, 99, 119, 110, 114, 102].getD j 0
theorem lawLtB (j : Nat) : 0 ≤ lawLt j ∧ lawLt j ≤ 126 := match j with
  | 0 => by decide
  | 1 => by decide
  | 2 => by decide
  | 3 => by decide
  | 4 => by decide
  | 5 => by decide
  | _ + 6 => by show (0 : Int) ≤ 0 ∧ (0 : Int) ≤ 126; decide
theorem ch_s (j : Nat) (hj : j < 6) (μ : Mm) : fJ0_charAt 0 (mI j) μ = some (mI (lawLt j), μ) := by
  have key : ∀ j, j < 6 → ((((mm_byt.getD 0 []).getD j (mI 0)) &&& mI 255).toUInt32 % 65536).toInt32 = mI (lawLt j) := by decide
  have q := lawLtB j
  have e1 : fJ0_isLatin1 0 μ = some (mI 1, μ) := rfl
  have e2 : fJ0_checkIndex (mI j) (mI 6) μ = some (mI 0, μ) := by
    unfold fJ0_checkIndex fJ3_checkIndex
    simp (implicitDefEqProofs := false) (maxSteps := 1000000) (disch := omega) only [↓mm_lt_s, ↓cl_in, ↓cl_wi, ↓cl_has, ↓cl_isP, mL_le, lit_n, litL_n, mL_mI, mL_neg, mm_cl_s, mI_lt, mI_le, mI_eq, enc_at, enc_wr, enc_cp, mI_neg, mI_add, mI_sub, mI_mul, mI_ix, mm_ck_ok, mm_nz_ok, mm_bo_c, mm_bo_m0, mm_bo_m1, b01, Int.toNat_natCast, Int.reduceToNat, Int.reduceNeg, Int.reduceSub, Int.reduceAdd, Int.reduceMul, Int.reduceLT, Int.reduceLE, Int.reduceEq, ↓reduceIte, not_true, not_false_eq_true, not_true_eq_false, and_self, true_and, and_true, false_and, and_false, Decidable.not_not, stv1, stv2, stv3, stv4]
    repeat (first | rw [if_pos (by omega)] | rw [if_neg (by omega)])
    simp (implicitDefEqProofs := false) (maxSteps := 1000000) (disch := omega) only [↓mm_lt_s, ↓cl_in, ↓cl_wi, ↓cl_has, ↓cl_isP, mL_le, lit_n, litL_n, mL_mI, mL_neg, mm_cl_s, mI_lt, mI_le, mI_eq, enc_at, enc_wr, enc_cp, mI_neg, mI_add, mI_sub, mI_mul, mI_ix, mm_ck_ok, mm_nz_ok, mm_bo_c, mm_bo_m0, mm_bo_m1, b01, Int.toNat_natCast, Int.reduceToNat, Int.reduceNeg, Int.reduceSub, Int.reduceAdd, Int.reduceMul, Int.reduceLT, Int.reduceLE, Int.reduceEq, ↓reduceIte, not_true, not_false_eq_true, not_true_eq_false, and_self, true_and, and_true, false_and, and_false, Decidable.not_not, stv1, stv2, stv3, stv4]
  have e3 : Int32.ofNat (mm_len.getD 0 0) = mI 6 := rfl
  have e4 : mm_len.getD 0 0 = 6 := rfl
  unfold fJ0_charAt fJ1_charAt
  rw [e1, e3, e4]
  simp (implicitDefEqProofs := false) (maxSteps := 1000000) (disch := omega) only [↓mm_lt_s, ↓cl_in, ↓cl_wi, ↓cl_has, ↓cl_isP, mL_le, lit_n, litL_n, mL_mI, mL_neg, mm_cl_s, mI_lt, mI_le, mI_eq, enc_at, enc_wr, enc_cp, mI_neg, mI_add, mI_sub, mI_mul, mI_ix, mm_ck_ok, mm_nz_ok, mm_bo_c, mm_bo_m0, mm_bo_m1, b01, Int.toNat_natCast, Int.reduceToNat, Int.reduceNeg, Int.reduceSub, Int.reduceAdd, Int.reduceMul, Int.reduceLT, Int.reduceLE, Int.reduceEq, ↓reduceIte, not_true, not_false_eq_true, not_true_eq_false, and_self, true_and, and_true, false_and, and_false, Decidable.not_not, stv1, stv2, stv3, stv4]
  rw [e2]
  simp (implicitDefEqProofs := false) (maxSteps := 1000000) (disch := omega) only [↓mm_lt_s, ↓cl_in, ↓cl_wi, ↓cl_has, ↓cl_isP, mL_le, lit_n, litL_n, mL_mI, mL_neg, mm_cl_s, mI_lt, mI_le, mI_eq, enc_at, enc_wr, enc_cp, mI_neg, mI_add, mI_sub, mI_mul, mI_ix, mm_ck_ok, mm_nz_ok, mm_bo_c, mm_bo_m0, mm_bo_m1, b01, Int.toNat_natCast, Int.reduceToNat, Int.reduceNeg, Int.reduceSub, Int.reduceAdd, Int.reduceMul, Int.reduceLT, Int.reduceLE, Int.reduceEq, ↓reduceIte, not_true, not_false_eq_true, not_true_eq_false, and_self, true_and, and_true, false_and, and_false, Decidable.not_not, stv1, stv2, stv3, stv4]
  rw [key j hj]
  unfold mm_rg
  simp (implicitDefEqProofs := false) (maxSteps := 1000000) (disch := omega) only [↓mm_lt_s, ↓cl_in, ↓cl_wi, ↓cl_has, ↓cl_isP, mL_le, lit_n, litL_n, mL_mI, mL_neg, mm_cl_s, mI_lt, mI_le, mI_eq, enc_at, enc_wr, enc_cp, mI_neg, mI_add, mI_sub, mI_mul, mI_ix, mm_ck_ok, mm_nz_ok, mm_bo_c, mm_bo_m0, mm_bo_m1, b01, Int.toNat_natCast, Int.reduceToNat, Int.reduceNeg, Int.reduceSub, Int.reduceAdd, Int.reduceMul, Int.reduceLT, Int.reduceLE, Int.reduceEq, ↓reduceIte, not_true, not_false_eq_true, not_true_eq_false, and_self, true_and, and_true, false_and, and_false, Decidable.not_not, stv1, stv2, stv3, stv4]
  repeat (first | rw [if_pos (by omega)] | rw [if_neg (by omega)])
  simp (implicitDefEqProofs := false) (maxSteps := 1000000) (disch := omega) only [↓mm_lt_s, ↓cl_in, ↓cl_wi, ↓cl_has, ↓cl_isP, mL_le, lit_n, litL_n, mL_mI, mL_neg, mm_cl_s, mI_lt, mI_le, mI_eq, enc_at, enc_wr, enc_cp, mI_neg, mI_add, mI_sub, mI_mul, mI_ix, mm_ck_ok, mm_nz_ok, mm_bo_c, mm_bo_m0, mm_bo_m1, b01, Int.toNat_natCast, Int.reduceToNat, Int.reduceNeg, Int.reduceSub, Int.reduceAdd, Int.reduceMul, Int.reduceLT, Int.reduceLE, Int.reduceEq, ↓reduceIte, not_true, not_false_eq_true, not_true_eq_false, and_self, true_and, and_true, false_and, and_false, Decidable.not_not, stv1, stv2, stv3, stv4]
  repeat (first | rw [if_pos (by omega)] | rw [if_neg (by omega)])
theorem letter_s (j : Nat) (hj : j < 6) (ν : Mm) : fX7_letterOf (mI j) ν = some (mI (lawLt j), ν) := by
  unfold fX7_letterOf
  simp (implicitDefEqProofs := false) (maxSteps := 1000000) (disch := omega) only [↓mm_lt_s, ↓cl_in, ↓cl_wi, ↓cl_has, ↓cl_isP, mL_le, lit_n, litL_n, mL_mI, mL_neg, mm_cl_s, mI_lt, mI_le, mI_eq, enc_at, enc_wr, enc_cp, mI_neg, mI_add, mI_sub, mI_mul, mI_ix, mm_ck_ok, mm_nz_ok, mm_bo_c, mm_bo_m0, mm_bo_m1, b01, Int.toNat_natCast, Int.reduceToNat, Int.reduceNeg, Int.reduceSub, Int.reduceAdd, Int.reduceMul, Int.reduceLT, Int.reduceLE, Int.reduceEq, ↓reduceIte, not_true, not_false_eq_true, not_true_eq_false, and_self, true_and, and_true, false_and, and_false, Decidable.not_not, stv1, stv2, stv3, stv4]
  have : j = 0 ∨ j = 1 ∨ j = 2 ∨ j = 3 ∨ j = 4 ∨ j = 5 := by omega
  rcases this with rfl | rfl | rfl | rfl | rfl | rfl <;> rfl
/-- what is read so far, in both -/
def RD (σ τ : IM) (i : Nat) : Prop := ∀ j, j < i → σ 29 j = τ 4 j ∧ (τ 4 j = -1 ∨ (lawLo j ≤ τ 4 j ∧ τ 4 j ≤ lawHi j))
/-- nothing but what reading changes -/
def FX (σ σ' : IM) : Prop := ∀ k j, ¬ (k = 27 ∧ j = 1) → k ≠ 29 → σ' k j = σ k j
def FM (τ τ' : IM) : Prop := ∀ k j, ¬ (k = 0 ∧ (j = 6 ∨ j = 7)) → k ≠ 4 → τ' k j = τ k j
theorem FX.rfl' {σ : IM} : FX σ σ := fun _ _ _ _ => rfl
theorem FM.rfl' {τ : IM} : FM τ τ := fun _ _ _ _ => rfl
theorem FX.tr {a b c : IM} (h1 : FX a b) (h2 : FX b c) : FX a c := fun k j p q => (h2 k j p q).trans (h1 k j p q)
theorem FM.tr {a b c : IM} (h1 : FM a b) (h2 : FM b c) : FM a c := fun k j p q => (h2 k j p q).trans (h1 k j p q)
theorem FX.pl {σ : IM} {v : Int} : FX σ (iw σ 27 1 v) := fun _ _ _ _ => iw_ne (by omega)
theorem FX.rd {σ : IM} {i : Nat} {v : Int} : FX σ (iw σ 29 i v) := fun _ _ _ _ => iw_ne (by omega)
theorem FM.pl {τ : IM} {v : Int} : FM τ (iw τ 0 6 v) := fun _ _ _ _ => iw_ne (by omega)
theorem FM.ct {τ : IM} {v : Int} : FM τ (iw τ 0 7 v) := fun _ _ _ _ => iw_ne (by omega)
theorem FM.rd {τ : IM} {i : Nat} {v : Int} : FM τ (iw τ 4 i v) := fun _ _ _ _ => iw_ne (by omega)
theorem lawX1 {σ σ1 σ4 : IM} {i : Nat} {q0 q1 : Int} {b lo hi t r : Int} (hi6 : i < 6) (ht0 : 0 ≤ t) (ht1 : t ≤ 6) (hb : b = lawLt i) (hq : 0 ≤ q0 ∧ q0 ≤ 80) (rI : I32 r) (hlo : lo = lawLo i) (hhi : hi = lawHi i) (e1 : σ1 = iw σ 29 i (-1)) (p4 : fX4_peek (enc σ1) = some (mI b, enc (iw σ1 27 1 q0))) (r3 : fX4_readNumber (mI lo) (mI hi) (enc (iw σ1 27 1 (q0 + 1))) = some (mI r, enc (iw σ1 27 1 q1))) (hσ : iw (iw σ1 27 1 q1) 29 i r = σ4) (N : Nat) (K0 : Mm → Aa) (K1 : Int32 → Mm → Aa) (z : Int32 → Int32 → Mm → Aa) : mm_lk z (fX4_readLaws_L9 K0 K1) (N + 1) (mI t) (mI i) (enc σ) = if 0 ≤ r then mm_lk z (fX4_readLaws_L9 K0 K1) N (mI (t + 1)) (mI ((i + 1 : Nat) : Int)) (enc σ4) else K0 (enc σ4) := by
  have lb := lawLtB i
  subst e1 hlo hhi
  have s1 : iw (iw σ 29 i (-1)) 27 1 q0 27 1 = q0 := iw_eq rfl rfl
  have g1 : σ4 29 i = r := by rw [← hσ, iw_eq rfl rfl]
  rw [mm_lk_s, fX4_readLaws_L9]
  simp (implicitDefEqProofs := false) (maxSteps := 1000000) (disch := omega) only [↓mm_lt_s, ↓cl_in, ↓cl_wi, ↓cl_has, ↓cl_isP, mL_le, lit_n, litL_n, mL_mI, mL_neg, mm_cl_s, mI_lt, mI_le, mI_eq, enc_at, enc_wr, enc_cp, mI_neg, mI_add, mI_sub, mI_mul, mI_ix, mm_ck_ok, mm_nz_ok, mm_bo_c, mm_bo_m0, mm_bo_m1, b01, Int.toNat_natCast, Int.reduceToNat, Int.reduceNeg, Int.reduceSub, Int.reduceAdd, Int.reduceMul, Int.reduceLT, Int.reduceLE, Int.reduceEq, ↓reduceIte, not_true, not_false_eq_true, not_true_eq_false, and_self, true_and, and_true, false_and, and_false, Decidable.not_not, stv1, stv2, stv3, stv4]
  repeat (first | rw [if_pos (by omega)] | rw [if_neg (by omega)])
  rw [p4]
  simp (implicitDefEqProofs := false) (maxSteps := 1000000) (disch := omega) only [↓mm_lt_s, ↓cl_in, ↓cl_wi, ↓cl_has, ↓cl_isP, mL_le, lit_n, litL_n, mL_mI, mL_neg, mm_cl_s, mI_lt, mI_le, mI_eq, enc_at, enc_wr, enc_cp, mI_neg, mI_add, mI_sub, mI_mul, mI_ix, mm_ck_ok, mm_nz_ok, mm_bo_c, mm_bo_m0, mm_bo_m1, b01, Int.toNat_natCast, Int.reduceToNat, Int.reduceNeg, Int.reduceSub, Int.reduceAdd, Int.reduceMul, Int.reduceLT, Int.reduceLE, Int.reduceEq, ↓reduceIte, not_true, not_false_eq_true, not_true_eq_false, and_self, true_and, and_true, false_and, and_false, Decidable.not_not, stv1, stv2, stv3, stv4]
  rw [ch_s i hi6]
  simp (implicitDefEqProofs := false) (maxSteps := 1000000) (disch := omega) only [↓mm_lt_s, ↓cl_in, ↓cl_wi, ↓cl_has, ↓cl_isP, mL_le, lit_n, litL_n, mL_mI, mL_neg, mm_cl_s, mI_lt, mI_le, mI_eq, enc_at, enc_wr, enc_cp, mI_neg, mI_add, mI_sub, mI_mul, mI_ix, mm_ck_ok, mm_nz_ok, mm_bo_c, mm_bo_m0, mm_bo_m1, b01, Int.toNat_natCast, Int.reduceToNat, Int.reduceNeg, Int.reduceSub, Int.reduceAdd, Int.reduceMul, Int.reduceLT, Int.reduceLE, Int.reduceEq, ↓reduceIte, not_true, not_false_eq_true, not_true_eq_false, and_self, true_and, and_true, false_and, and_false, Decidable.not_not, stv1, stv2, stv3, stv4]
  repeat (first | rw [if_pos (by omega)] | rw [if_neg (by omega)])
  simp (implicitDefEqProofs := false) (maxSteps := 1000000) (disch := omega) only [s1, cast_s, iw_iw, ↓mm_lt_s, ↓cl_in, ↓cl_wi, ↓cl_has, ↓cl_isP, mL_le, lit_n, litL_n, mL_mI, mL_neg, mm_cl_s, mI_lt, mI_le, mI_eq, enc_at, enc_wr, enc_cp, mI_neg, mI_add, mI_sub, mI_mul, mI_ix, mm_ck_ok, mm_nz_ok, mm_bo_c, mm_bo_m0, mm_bo_m1, b01, Int.toNat_natCast, Int.reduceToNat, Int.reduceNeg, Int.reduceSub, Int.reduceAdd, Int.reduceMul, Int.reduceLT, Int.reduceLE, Int.reduceEq, ↓reduceIte, not_true, not_false_eq_true, not_true_eq_false, and_self, true_and, and_true, false_and, and_false, Decidable.not_not, stv1, stv2, stv3, stv4]
  rw [r3]
  simp (implicitDefEqProofs := false) (maxSteps := 1000000) (disch := omega) only [hσ, g1, cast_s, ↓mm_lt_s, ↓cl_in, ↓cl_wi, ↓cl_has, ↓cl_isP, mL_le, lit_n, litL_n, mL_mI, mL_neg, mm_cl_s, mI_lt, mI_le, mI_eq, enc_at, enc_wr, enc_cp, mI_neg, mI_add, mI_sub, mI_mul, mI_ix, mm_ck_ok, mm_nz_ok, mm_bo_c, mm_bo_m0, mm_bo_m1, b01, Int.toNat_natCast, Int.reduceToNat, Int.reduceNeg, Int.reduceSub, Int.reduceAdd, Int.reduceMul, Int.reduceLT, Int.reduceLE, Int.reduceEq, ↓reduceIte, not_true, not_false_eq_true, not_true_eq_false, and_self, true_and, and_true, false_and, and_false, Decidable.not_not, stv1, stv2, stv3, stv4]
theorem lawM1 {τ τ1 τ4 : IM} {i : Nat} {q0 q1 : Int} {b lo hi t r : Int} (hi6 : i < 6) (ht0 : 0 ≤ t) (ht1 : t ≤ 6) (h7 : τ 0 7 = t) (hb : b = lawLt i) (hq : 0 ≤ q0 ∧ q0 ≤ 80) (rI : I32 r) (hlo : lo = lawLo i) (hhi : hi = lawHi i) (e1 : τ1 = iw τ 4 i (-1)) (p5 : fX7_nextByte (enc τ1) = some (mI b, enc (iw τ1 0 6 q0))) (r4 : fX7_readNumber (mI lo) (mI hi) (enc (iw τ1 0 6 (q0 + 1))) = some (mI r, enc (iw τ1 0 6 q1))) (hτ : iw (iw τ1 0 6 q1) 4 i r = τ4) (N : Nat) (K0 K1 : Mm → Aa) (z : Int32 → Mm → Aa) : mm_lk z (fX7_readLaws_L12 K0 K1) (N + 1) (mI i) (enc τ) = if 0 ≤ r then mm_lk z (fX7_readLaws_L12 K0 K1) N (mI ((i + 1 : Nat) : Int)) (enc (iw τ4 0 7 (t + 1))) else K0 (enc τ4) := by
  have lb := lawLtB i
  subst e1 hlo hhi
  have s2 : iw (iw τ 4 i (-1)) 0 6 q0 0 6 = q0 := iw_eq rfl rfl
  have g2 : τ4 4 i = r := by rw [← hτ, iw_eq rfl rfl]
  have g3 : τ4 0 7 = t := by rw [← hτ, iw_ne (by omega), iw_ne (by omega), iw_ne (by omega)]; exact h7
  rw [mm_lk_s, fX7_readLaws_L12]
  simp (implicitDefEqProofs := false) (maxSteps := 1000000) (disch := omega) only [↓mm_lt_s, ↓cl_in, ↓cl_wi, ↓cl_has, ↓cl_isP, mL_le, lit_n, litL_n, mL_mI, mL_neg, mm_cl_s, mI_lt, mI_le, mI_eq, enc_at, enc_wr, enc_cp, mI_neg, mI_add, mI_sub, mI_mul, mI_ix, mm_ck_ok, mm_nz_ok, mm_bo_c, mm_bo_m0, mm_bo_m1, b01, Int.toNat_natCast, Int.reduceToNat, Int.reduceNeg, Int.reduceSub, Int.reduceAdd, Int.reduceMul, Int.reduceLT, Int.reduceLE, Int.reduceEq, ↓reduceIte, not_true, not_false_eq_true, not_true_eq_false, and_self, true_and, and_true, false_and, and_false, Decidable.not_not, stv1, stv2, stv3, stv4]
  repeat (first | rw [if_pos (by omega)] | rw [if_neg (by omega)])
  rw [p5]
  simp (implicitDefEqProofs := false) (maxSteps := 1000000) (disch := omega) only [↓mm_lt_s, ↓cl_in, ↓cl_wi, ↓cl_has, ↓cl_isP, mL_le, lit_n, litL_n, mL_mI, mL_neg, mm_cl_s, mI_lt, mI_le, mI_eq, enc_at, enc_wr, enc_cp, mI_neg, mI_add, mI_sub, mI_mul, mI_ix, mm_ck_ok, mm_nz_ok, mm_bo_c, mm_bo_m0, mm_bo_m1, b01, Int.toNat_natCast, Int.reduceToNat, Int.reduceNeg, Int.reduceSub, Int.reduceAdd, Int.reduceMul, Int.reduceLT, Int.reduceLE, Int.reduceEq, ↓reduceIte, not_true, not_false_eq_true, not_true_eq_false, and_self, true_and, and_true, false_and, and_false, Decidable.not_not, stv1, stv2, stv3, stv4]
  rw [letter_s i hi6]
  simp (implicitDefEqProofs := false) (maxSteps := 1000000) (disch := omega) only [↓mm_lt_s, ↓cl_in, ↓cl_wi, ↓cl_has, ↓cl_isP, mL_le, lit_n, litL_n, mL_mI, mL_neg, mm_cl_s, mI_lt, mI_le, mI_eq, enc_at, enc_wr, enc_cp, mI_neg, mI_add, mI_sub, mI_mul, mI_ix, mm_ck_ok, mm_nz_ok, mm_bo_c, mm_bo_m0, mm_bo_m1, b01, Int.toNat_natCast, Int.reduceToNat, Int.reduceNeg, Int.reduceSub, Int.reduceAdd, Int.reduceMul, Int.reduceLT, Int.reduceLE, Int.reduceEq, ↓reduceIte, not_true, not_false_eq_true, not_true_eq_false, and_self, true_and, and_true, false_and, and_false, Decidable.not_not, stv1, stv2, stv3, stv4]
  repeat (first | rw [if_pos (by omega)] | rw [if_neg (by omega)])
  simp (implicitDefEqProofs := false) (maxSteps := 1000000) (disch := omega) only [s2, cast_s, iw_iw, leastOf_s, mostOf_s, ↓mm_lt_s, ↓cl_in, ↓cl_wi, ↓cl_has, ↓cl_isP, mL_le, lit_n, litL_n, mL_mI, mL_neg, mm_cl_s, mI_lt, mI_le, mI_eq, enc_at, enc_wr, enc_cp, mI_neg, mI_add, mI_sub, mI_mul, mI_ix, mm_ck_ok, mm_nz_ok, mm_bo_c, mm_bo_m0, mm_bo_m1, b01, Int.toNat_natCast, Int.reduceToNat, Int.reduceNeg, Int.reduceSub, Int.reduceAdd, Int.reduceMul, Int.reduceLT, Int.reduceLE, Int.reduceEq, ↓reduceIte, not_true, not_false_eq_true, not_true_eq_false, and_self, true_and, and_true, false_and, and_false, Decidable.not_not, stv1, stv2, stv3, stv4]
  rw [r4]
  simp (implicitDefEqProofs := false) (maxSteps := 1000000) (disch := omega) only [hτ, g2, g3, cast_s, ↓mm_lt_s, ↓cl_in, ↓cl_wi, ↓cl_has, ↓cl_isP, mL_le, lit_n, litL_n, mL_mI, mL_neg, mm_cl_s, mI_lt, mI_le, mI_eq, enc_at, enc_wr, enc_cp, mI_neg, mI_add, mI_sub, mI_mul, mI_ix, mm_ck_ok, mm_nz_ok, mm_bo_c, mm_bo_m0, mm_bo_m1, b01, Int.toNat_natCast, Int.reduceToNat, Int.reduceNeg, Int.reduceSub, Int.reduceAdd, Int.reduceMul, Int.reduceLT, Int.reduceLE, Int.reduceEq, ↓reduceIte, not_true, not_false_eq_true, not_true_eq_false, and_self, true_and, and_true, false_and, and_false, Decidable.not_not, stv1, stv2, stv3, stv4]
theorem lawX2 {σ σ1 σ4 : IM} {i : Nat} {q0 : Int} {b t : Int} (hi6 : i < 6) (ht0 : 0 ≤ t) (ht1 : t ≤ 6) (hI : I32 b) (hb : b ≠ lawLt i) (e1 : σ1 = iw σ 29 i (-1)) (p4 : fX4_peek (enc σ1) = some (mI b, enc (iw σ1 27 1 q0))) (hσ : iw σ1 27 1 q0 = σ4) (N : Nat) (K0 : Mm → Aa) (K1 : Int32 → Mm → Aa) (z : Int32 → Int32 → Mm → Aa) : mm_lk z (fX4_readLaws_L9 K0 K1) (N + 1) (mI t) (mI i) (enc σ) = mm_lk z (fX4_readLaws_L9 K0 K1) N (mI t) (mI ((i + 1 : Nat) : Int)) (enc σ4) := by
  have lb := lawLtB i
  subst e1
  rw [mm_lk_s, fX4_readLaws_L9]
  simp (implicitDefEqProofs := false) (maxSteps := 1000000) (disch := omega) only [↓mm_lt_s, ↓cl_in, ↓cl_wi, ↓cl_has, ↓cl_isP, mL_le, lit_n, litL_n, mL_mI, mL_neg, mm_cl_s, mI_lt, mI_le, mI_eq, enc_at, enc_wr, enc_cp, mI_neg, mI_add, mI_sub, mI_mul, mI_ix, mm_ck_ok, mm_nz_ok, mm_bo_c, mm_bo_m0, mm_bo_m1, b01, Int.toNat_natCast, Int.reduceToNat, Int.reduceNeg, Int.reduceSub, Int.reduceAdd, Int.reduceMul, Int.reduceLT, Int.reduceLE, Int.reduceEq, ↓reduceIte, not_true, not_false_eq_true, not_true_eq_false, and_self, true_and, and_true, false_and, and_false, Decidable.not_not, stv1, stv2, stv3, stv4]
  repeat (first | rw [if_pos (by omega)] | rw [if_neg (by omega)])
  rw [p4]
  simp (implicitDefEqProofs := false) (maxSteps := 1000000) (disch := omega) only [↓mm_lt_s, ↓cl_in, ↓cl_wi, ↓cl_has, ↓cl_isP, mL_le, lit_n, litL_n, mL_mI, mL_neg, mm_cl_s, mI_lt, mI_le, mI_eq, enc_at, enc_wr, enc_cp, mI_neg, mI_add, mI_sub, mI_mul, mI_ix, mm_ck_ok, mm_nz_ok, mm_bo_c, mm_bo_m0, mm_bo_m1, b01, Int.toNat_natCast, Int.reduceToNat, Int.reduceNeg, Int.reduceSub, Int.reduceAdd, Int.reduceMul, Int.reduceLT, Int.reduceLE, Int.reduceEq, ↓reduceIte, not_true, not_false_eq_true, not_true_eq_false, and_self, true_and, and_true, false_and, and_false, Decidable.not_not, stv1, stv2, stv3, stv4]
  rw [ch_s i hi6]
  simp (implicitDefEqProofs := false) (maxSteps := 1000000) (disch := omega) only [hσ, cast_s, ↓mm_lt_s, ↓cl_in, ↓cl_wi, ↓cl_has, ↓cl_isP, mL_le, lit_n, litL_n, mL_mI, mL_neg, mm_cl_s, mI_lt, mI_le, mI_eq, enc_at, enc_wr, enc_cp, mI_neg, mI_add, mI_sub, mI_mul, mI_ix, mm_ck_ok, mm_nz_ok, mm_bo_c, mm_bo_m0, mm_bo_m1, b01, Int.toNat_natCast, Int.reduceToNat, Int.reduceNeg, Int.reduceSub, Int.reduceAdd, Int.reduceMul, Int.reduceLT, Int.reduceLE, Int.reduceEq, ↓reduceIte, not_true, not_false_eq_true, not_true_eq_false, and_self, true_and, and_true, false_and, and_false, Decidable.not_not, stv1, stv2, stv3, stv4]
  repeat (first | rw [if_pos (by omega)] | rw [if_neg (by omega)])
theorem lawM2 {τ τ1 τ4 : IM} {i : Nat} {q0 : Int} {b : Int} (hi6 : i < 6) (hI : I32 b) (hb : b ≠ lawLt i) (e1 : τ1 = iw τ 4 i (-1)) (p5 : fX7_nextByte (enc τ1) = some (mI b, enc (iw τ1 0 6 q0))) (hτ : iw τ1 0 6 q0 = τ4) (N : Nat) (K0 K1 : Mm → Aa) (z : Int32 → Mm → Aa) : mm_lk z (fX7_readLaws_L12 K0 K1) (N + 1) (mI i) (enc τ) = mm_lk z (fX7_readLaws_L12 K0 K1) N (mI ((i + 1 : Nat) : Int)) (enc τ4) := by
  have lb := lawLtB i
  subst e1
  rw [mm_lk_s, fX7_readLaws_L12]
  simp (implicitDefEqProofs := false) (maxSteps := 1000000) (disch := omega) only [↓mm_lt_s, ↓cl_in, ↓cl_wi, ↓cl_has, ↓cl_isP, mL_le, lit_n, litL_n, mL_mI, mL_neg, mm_cl_s, mI_lt, mI_le, mI_eq, enc_at, enc_wr, enc_cp, mI_neg, mI_add, mI_sub, mI_mul, mI_ix, mm_ck_ok, mm_nz_ok, mm_bo_c, mm_bo_m0, mm_bo_m1, b01, Int.toNat_natCast, Int.reduceToNat, Int.reduceNeg, Int.reduceSub, Int.reduceAdd, Int.reduceMul, Int.reduceLT, Int.reduceLE, Int.reduceEq, ↓reduceIte, not_true, not_false_eq_true, not_true_eq_false, and_self, true_and, and_true, false_and, and_false, Decidable.not_not, stv1, stv2, stv3, stv4]
  repeat (first | rw [if_pos (by omega)] | rw [if_neg (by omega)])
  rw [p5]
  simp (implicitDefEqProofs := false) (maxSteps := 1000000) (disch := omega) only [↓mm_lt_s, ↓cl_in, ↓cl_wi, ↓cl_has, ↓cl_isP, mL_le, lit_n, litL_n, mL_mI, mL_neg, mm_cl_s, mI_lt, mI_le, mI_eq, enc_at, enc_wr, enc_cp, mI_neg, mI_add, mI_sub, mI_mul, mI_ix, mm_ck_ok, mm_nz_ok, mm_bo_c, mm_bo_m0, mm_bo_m1, b01, Int.toNat_natCast, Int.reduceToNat, Int.reduceNeg, Int.reduceSub, Int.reduceAdd, Int.reduceMul, Int.reduceLT, Int.reduceLE, Int.reduceEq, ↓reduceIte, not_true, not_false_eq_true, not_true_eq_false, and_self, true_and, and_true, false_and, and_false, Decidable.not_not, stv1, stv2, stv3, stv4]
  rw [letter_s i hi6]
  simp (implicitDefEqProofs := false) (maxSteps := 1000000) (disch := omega) only [hτ, cast_s, ↓mm_lt_s, ↓cl_in, ↓cl_wi, ↓cl_has, ↓cl_isP, mL_le, lit_n, litL_n, mL_mI, mL_neg, mm_cl_s, mI_lt, mI_le, mI_eq, enc_at, enc_wr, enc_cp, mI_neg, mI_add, mI_sub, mI_mul, mI_ix, mm_ck_ok, mm_nz_ok, mm_bo_c, mm_bo_m0, mm_bo_m1, b01, Int.toNat_natCast, Int.reduceToNat, Int.reduceNeg, Int.reduceSub, Int.reduceAdd, Int.reduceMul, Int.reduceLT, Int.reduceLE, Int.reduceEq, ↓reduceIte, not_true, not_false_eq_true, not_true_eq_false, and_self, true_and, and_true, false_and, and_false, Decidable.not_not, stv1, stv2, stv3, stv4]
  repeat (first | rw [if_pos (by omega)] | rw [if_neg (by omega)])
theorem lawX0 {σ : IM} {t : Int} (N : Nat) (K0 : Mm → Aa) (K1 : Int32 → Mm → Aa) (z : Int32 → Int32 → Mm → Aa) : mm_lk z (fX4_readLaws_L9 K0 K1) (N + 1) (mI t) (mI ((6 : Nat) : Int)) (enc σ) = K1 (mI t) (enc σ) := by
  have e : (6 : Int32) ≤ mI ((6 : Nat) : Int) := by decide
  rw [mm_lk_s, fX4_readLaws_L9, if_pos e]
theorem lawM0 {τ : IM} (N : Nat) (K0 K1 : Mm → Aa) (z : Int32 → Mm → Aa) : mm_lk z (fX7_readLaws_L12 K0 K1) (N + 1) (mI ((6 : Nat) : Int)) (enc τ) = K1 (enc τ) := by
  have e : (6 : Int32) ≤ mI ((6 : Nat) : Int) := by decide
  rw [mm_lk_s, fX7_readLaws_L12, if_pos e]
theorem lawsL {n : Nat} : ∀ (d i pl : Nat) (t : Int) (σ τ : IM), i + d = 6 → 0 ≤ t → t ≤ i → TP σ τ n pl → τ 0 7 = t → RD σ τ i → ∃ (σ' τ' : IM) (q : Nat) (t' : Int), FX σ σ' ∧ FM τ τ' ∧ TP σ' τ' n q ∧ (((∀ (N : Nat), d < N → ∀ (K0 : Mm → Aa) (K1 : Int32 → Mm → Aa) (z : Int32 → Int32 → Mm → Aa), mm_lk z (fX4_readLaws_L9 K0 K1) N (mI t) (mI i) (enc σ) = K0 (enc σ')) ∧ (∀ (N : Nat), d < N → ∀ (K0 K1 : Mm → Aa) (z : Int32 → Mm → Aa), mm_lk z (fX7_readLaws_L12 K0 K1) N (mI i) (enc τ) = K0 (enc τ')) ∧ atB τ' n q) ∨ ((∀ (N : Nat), d < N → ∀ (K0 : Mm → Aa) (K1 : Int32 → Mm → Aa) (z : Int32 → Int32 → Mm → Aa), mm_lk z (fX4_readLaws_L9 K0 K1) N (mI t) (mI i) (enc σ) = K1 (mI t') (enc σ')) ∧ (∀ (N : Nat), d < N → ∀ (K0 K1 : Mm → Aa) (z : Int32 → Mm → Aa), mm_lk z (fX7_readLaws_L12 K0 K1) N (mI i) (enc τ) = K1 (enc τ')) ∧ t ≤ t' ∧ t' ≤ 6 ∧ τ' 0 7 = t' ∧ RD σ' τ' 6 ∧ (t' ≠ 0 ∨ atB τ' n q ∨ (d = 0 ∧ ¬ atB τ n pl))))
  := by
  intro d
  induction d with
  | zero =>
    intro i pl t σ τ h ht0 ht1 hT h7 hR
    have e : i = 6 := by omega
    subst e
    refine ⟨σ, τ, pl, t, FX.rfl', FM.rfl', hT, Or.inr ⟨fun N hN K0 K1 z => ?_, fun N hN K0 K1 z => ?_, Int.le_refl _, by omega, h7, hR, ?_⟩⟩
    · obtain ⟨N, rfl⟩ : ∃ M, N = M + 1 := ⟨N - 1, by omega⟩
      exact lawX0 N K0 K1 z
    · obtain ⟨N, rfl⟩ : ∃ M, N = M + 1 := ⟨N - 1, by omega⟩
      exact lawM0 N K0 K1 z
    · by_cases c : atB τ n pl
      · exact Or.inr (Or.inl c)
      · exact Or.inr (Or.inr ⟨rfl, c⟩)
  | succ d ih =>
    intro i pl t σ τ h ht0 ht1 hT h7 hR
    have hi : i < 6 := by omega
    have n80 := hT.1.2.2.2.2.2
    have lb := lawLtB i
    have T1 : TP (iw σ 29 i (-1)) (iw τ 4 i (-1)) n pl := hT.cong (fun k j hk => iw_ne (by omega)) (fun j => iw_ne (by omega)) (iw_ne (by omega)) (iw_ne (by omega))
    obtain ⟨q0, p1, p2, p3, p4, p5, p6⟩ := peekP T1
    have hb : I32 (nxB (iw τ 4 i (-1)) n q0) := by
      unfold nxB
      by_cases c : q0 < n
      · have := T1.2 q0 c
        rw [if_pos c]; omega
      · rw [if_neg c]; omega
    have T2 := T1.to p2
    by_cases c1 : nxB (iw τ 4 i (-1)) n q0 = lawLt i
    · have hq0 : q0 < n := by
        by_cases c : q0 < n
        · exact c
        · unfold nxB at c1; rw [if_neg c] at c1; omega
      have T3 := T2.to (q := q0 + 1) (by omega)
      rw [iw_iw, iw_iw] at T3
      have l1 := lawB i
      have l2 := lawB2 i
      obtain ⟨r, q1, r1, r2, r3, r4, r5⟩ := numP T3 (lawLo i) (lawHi i) (by omega) (by omega) (by omega) (by omega)
      have T4 := T3.to r2
      have s1 : iw (iw σ 29 i (-1)) 27 1 (q0 : Int) 27 1 = (q0 : Int) := iw_eq rfl rfl
      have s2 : iw (iw τ 4 i (-1)) 0 6 (q0 : Int) 0 6 = (q0 : Int) := iw_eq rfl rfl
      rw [iw_iw] at r3 r4 T4
      rw [iw_iw] at T4
      generalize hσ : iw (iw (iw σ 29 i (-1)) 27 1 (q1 : Int)) 29 i r = σ4
      generalize hτ : iw (iw (iw τ 4 i (-1)) 0 6 (q1 : Int)) 4 i r = τ4
      have T5 : TP σ4 τ4 n q1 := T4.cong (fun k j hk => by rw [← hσ, iw_ne (by omega)]) (fun j => by rw [← hτ, iw_ne (by omega)]) (by rw [← hτ, iw_ne (by omega)]) (by rw [← hτ, iw_ne (by omega)])
      have F1 : FX σ σ4 := by rw [← hσ]; exact (FX.rd.tr FX.pl).tr FX.rd
      have F2 : FM τ τ4 := by rw [← hτ]; exact (FM.rd.tr FM.pl).tr FM.rd
      have g1 : σ4 29 i = r := by rw [← hσ, iw_eq rfl rfl]
      have g2 : τ4 4 i = r := by rw [← hτ, iw_eq rfl rfl]
      have g3 : τ4 0 7 = t := by rw [← hτ, iw_ne (by omega), iw_ne (by omega), iw_ne (by omega)]; exact h7
      have hR4 : RD σ4 τ4 i := fun j hj => by
        rw [← hσ, ← hτ, iw_ne (by omega), iw_ne (by omega), iw_ne (by omega), iw_ne (by omega), iw_ne (by omega), iw_ne (by omega)]; exact hR j hj
      have rI : I32 r := by rcases r5 with r5 | r5 <;> omega
      have stepX : ∀ (N : Nat) (K0 : Mm → Aa) (K1 : Int32 → Mm → Aa) (z : Int32 → Int32 → Mm → Aa), mm_lk z (fX4_readLaws_L9 K0 K1) (N + 1) (mI t) (mI i) (enc σ) = if 0 ≤ r then mm_lk z (fX4_readLaws_L9 K0 K1) N (mI (t + 1)) (mI ((i + 1 : Nat) : Int)) (enc σ4) else K0 (enc σ4) := fun N K0 K1 z => lawX1 hi ht0 (by omega) c1 (by omega) rI rfl rfl rfl p4 r3 hσ N K0 K1 z
      have stepM : ∀ (N : Nat) (K0 K1 : Mm → Aa) (z : Int32 → Mm → Aa), mm_lk z (fX7_readLaws_L12 K0 K1) (N + 1) (mI i) (enc τ) = if 0 ≤ r then mm_lk z (fX7_readLaws_L12 K0 K1) N (mI ((i + 1 : Nat) : Int)) (enc (iw τ4 0 7 (t + 1))) else K0 (enc τ4) := fun N K0 K1 z => lawM1 hi ht0 (by omega) h7 c1 (by omega) rI rfl rfl rfl p5 r4 hτ N K0 K1 z
      by_cases c2 : 0 ≤ r
      · have hr5 : lawLo i ≤ r ∧ r ≤ lawHi i := by rcases r5 with r5 | r5 <;> omega
        obtain ⟨σ', τ', q, t', f1, f2, f3, f4⟩ := ih (i + 1) q1 (t + 1) σ4 (iw τ4 0 7 (t + 1)) (by omega) (by omega) (by omega) (T5.cong (fun _ _ _ => rfl) (fun j => iw_ne (by omega)) (iw_ne (by omega)) (iw_ne (by omega))) (iw_eq rfl rfl) (fun j hj => by
          rw [iw_ne (by omega)]
          by_cases ej : j = i
          · subst ej
            rw [g1, g2]
            exact ⟨rfl, Or.inr hr5⟩
          · exact hR4 j (by omega))
        refine ⟨σ', τ', q, t', F1.tr f1, (F2.tr FM.ct).tr f2, f3, ?_⟩
        rcases f4 with ⟨f4, f5, f6⟩ | ⟨f4, f5, f6, f7, f8, f9, f10⟩
        · refine Or.inl ⟨fun N hN K0 K1 z => ?_, fun N hN K0 K1 z => ?_, f6⟩
          · obtain ⟨N, rfl⟩ : ∃ M, N = M + 1 := ⟨N - 1, by omega⟩
            rw [stepX, if_pos c2]; exact f4 N (by omega) K0 K1 z
          · obtain ⟨N, rfl⟩ : ∃ M, N = M + 1 := ⟨N - 1, by omega⟩
            rw [stepM, if_pos c2]; exact f5 N (by omega) K0 K1 z
        · refine Or.inr ⟨fun N hN K0 K1 z => ?_, fun N hN K0 K1 z => ?_, by omega, f7, f8, f9, ?_⟩
          · obtain ⟨N, rfl⟩ : ∃ M, N = M + 1 := ⟨N - 1, by omega⟩
            rw [stepX, if_pos c2]; exact f4 N (by omega) K0 K1 z
          · obtain ⟨N, rfl⟩ : ∃ M, N = M + 1 := ⟨N - 1, by omega⟩
            rw [stepM, if_pos c2]; exact f5 N (by omega) K0 K1 z
          · exact Or.inl (by omega)
      · have hr5 : atB (iw (iw τ 4 i (-1)) 0 6 ((q0 + 1 : Nat) : Int)) n q1 := by
          rcases r5 with r5 | r5
          · omega
          · exact r5.2
        refine ⟨σ4, τ4, q1, t, F1, F2, T5, Or.inl ⟨fun N hN K0 K1 z => ?_, fun N hN K0 K1 z => ?_, ?_⟩⟩
        · obtain ⟨N, rfl⟩ : ∃ M, N = M + 1 := ⟨N - 1, by omega⟩
          rw [stepX, if_neg c2]
        · obtain ⟨N, rfl⟩ : ∃ M, N = M + 1 := ⟨N - 1, by omega⟩
          rw [stepM, if_neg c2]
        · unfold atB at hr5 ⊢
          rw [← hτ, iw_ne (by omega), iw_ne (by omega)]
          rw [iw_ne (by omega)] at hr5
          exact hr5
    · generalize hσ : iw (iw σ 29 i (-1)) 27 1 (q0 : Int) = σ4
      generalize hτ : iw (iw τ 4 i (-1)) 0 6 (q0 : Int) = τ4
      have F1 : FX σ σ4 := by rw [← hσ]; exact FX.rd.tr FX.pl
      have F2 : FM τ τ4 := by rw [← hτ]; exact FM.rd.tr FM.pl
      rw [hσ, hτ] at T2
      obtain ⟨σ', τ', q, t', f1, f2, f3, f4⟩ := ih (i + 1) q0 t σ4 τ4 (by omega) ht0 (by omega) T2 (by rw [← hτ, iw_ne (by omega), iw_ne (by omega)]; exact h7) (fun j hj => by
        have u1 : σ4 29 j = iw σ 29 i (-1) 29 j := by rw [← hσ, iw_ne (by omega)]
        have u2 : τ4 4 j = iw τ 4 i (-1) 4 j := by rw [← hτ, iw_ne (by omega)]
        rw [u1, u2]
        by_cases ej : j = i
        · subst ej
          rw [iw_eq rfl rfl, iw_eq rfl rfl]
          exact ⟨rfl, Or.inl rfl⟩
        · rw [iw_ne (by omega), iw_ne (by omega)]
          exact hR j (by omega))
      have stepX : ∀ (N : Nat) (K0 : Mm → Aa) (K1 : Int32 → Mm → Aa) (z : Int32 → Int32 → Mm → Aa), mm_lk z (fX4_readLaws_L9 K0 K1) (N + 1) (mI t) (mI i) (enc σ) = mm_lk z (fX4_readLaws_L9 K0 K1) N (mI t) (mI ((i + 1 : Nat) : Int)) (enc σ4) := fun N K0 K1 z => lawX2 hi ht0 (by omega) hb c1 rfl p4 hσ N K0 K1 z
      have stepM : ∀ (N : Nat) (K0 K1 : Mm → Aa) (z : Int32 → Mm → Aa), mm_lk z (fX7_readLaws_L12 K0 K1) (N + 1) (mI i) (enc τ) = mm_lk z (fX7_readLaws_L12 K0 K1) N (mI ((i + 1 : Nat) : Int)) (enc τ4) := fun N K0 K1 z => lawM2 hi hb c1 rfl p5 hτ N K0 K1 z
      refine ⟨σ', τ', q, t', F1.tr f1, F2.tr f2, f3, ?_⟩
      rcases f4 with ⟨f4, f5, f6⟩ | ⟨f4, f5, f6, f7, f8, f9, f10⟩
      · refine Or.inl ⟨fun N hN K0 K1 z => ?_, fun N hN K0 K1 z => ?_, f6⟩
        · obtain ⟨N, rfl⟩ : ∃ M, N = M + 1 := ⟨N - 1, by omega⟩
          rw [stepX]; exact f4 N (by omega) K0 K1 z
        · obtain ⟨N, rfl⟩ : ∃ M, N = M + 1 := ⟨N - 1, by omega⟩
          rw [stepM]; exact f5 N (by omega) K0 K1 z
      · refine Or.inr ⟨fun N hN K0 K1 z => ?_, fun N hN K0 K1 z => ?_, f6, f7, f8, f9, ?_⟩
        · obtain ⟨N, rfl⟩ : ∃ M, N = M + 1 := ⟨N - 1, by omega⟩
          rw [stepX]; exact f4 N (by omega) K0 K1 z
        · obtain ⟨N, rfl⟩ : ∃ M, N = M + 1 := ⟨N - 1, by omega⟩
          rw [stepM]; exact f5 N (by omega) K0 K1 z
        · rcases f10 with f10 | f10 | f10
          · exact Or.inl f10
          · exact Or.inr (Or.inl f10)
          · refine absurd ?_ f10.2
            unfold atB at p3 ⊢
            rw [← hτ, iw_ne (by omega)]
            exact p3
theorem setX_L {K : Mm → Aa} {z : Int32 → Mm → Aa} : ∀ (d i N : Nat) (σ : IM), i + d = 6 → d < N → (∀ j, j < 6 → I32 (σ 29 j)) → mm_lk z (fX6_laws_L28 K) N (mI i) (enc σ) = K (enc (ifl σ 2 i 6 (fun j => if σ 29 j < 0 then σ 2 j else σ 29 j)))
  | d, i, 0, σ, _, h, _ => absurd h (Nat.not_lt_zero d)
  | 0, i, N + 1, σ, h, _, _ => by
    rw [mm_lk_s, fX6_laws_L28]
    simp (implicitDefEqProofs := false) (maxSteps := 1000000) (disch := omega) only [↓mm_lt_s, ↓cl_in, ↓cl_wi, ↓cl_has, ↓cl_isP, mL_le, lit_n, litL_n, mL_mI, mL_neg, mm_cl_s, mI_lt, mI_le, mI_eq, enc_at, enc_wr, enc_cp, mI_neg, mI_add, mI_sub, mI_mul, mI_ix, mm_ck_ok, mm_nz_ok, mm_bo_c, mm_bo_m0, mm_bo_m1, b01, Int.toNat_natCast, Int.reduceToNat, Int.reduceNeg, Int.reduceSub, Int.reduceAdd, Int.reduceMul, Int.reduceLT, Int.reduceLE, Int.reduceEq, ↓reduceIte, not_true, not_false_eq_true, not_true_eq_false, and_self, true_and, and_true, false_and, and_false, Decidable.not_not, stv1, stv2, stv3, stv4]
    repeat (first | rw [if_pos (by omega)] | rw [if_neg (by omega)])
    rw [ifl_nil (by omega)]
  | d + 1, i, N + 1, σ, h, h2, hr => by
    have q := hr i (by omega)
    rw [mm_lk_s, fX6_laws_L28]
    simp (implicitDefEqProofs := false) (maxSteps := 1000000) (disch := omega) only [cast_s, ↓mm_lt_s, ↓cl_in, ↓cl_wi, ↓cl_has, ↓cl_isP, mL_le, lit_n, litL_n, mL_mI, mL_neg, mm_cl_s, mI_lt, mI_le, mI_eq, enc_at, enc_wr, enc_cp, mI_neg, mI_add, mI_sub, mI_mul, mI_ix, mm_ck_ok, mm_nz_ok, mm_bo_c, mm_bo_m0, mm_bo_m1, b01, Int.toNat_natCast, Int.reduceToNat, Int.reduceNeg, Int.reduceSub, Int.reduceAdd, Int.reduceMul, Int.reduceLT, Int.reduceLE, Int.reduceEq, ↓reduceIte, not_true, not_false_eq_true, not_true_eq_false, and_self, true_and, and_true, false_and, and_false, Decidable.not_not, stv1, stv2, stv3, stv4]
    by_cases c : σ 29 i < 0
    · repeat (first | rw [if_pos (by omega)] | rw [if_neg (by omega)])
      rw [setX_L d (i + 1) N σ (by omega) (by omega) hr]
      congr 2
      rw [← ifl_step (σ := σ) (q := 2) (i := i) (hi := 6) (f := fun j => if σ 29 j < 0 then σ 2 j else σ 29 j) (v := σ 2 i) (by omega) (by rw [if_pos c]), iw_self rfl]
    · repeat (first | rw [if_pos (by omega)] | rw [if_neg (by omega)])
      rw [setX_L d (i + 1) N _ (by omega) (by omega) (fun j hj => by rw [iw_ne (by omega)]; exact hr j hj)]
      congr 2
      rw [← ifl_step (σ := σ) (q := 2) (i := i) (hi := 6) (f := fun j => if σ 29 j < 0 then σ 2 j else σ 29 j) (v := σ 29 i) (by omega) (by rw [if_neg c])]
      funext a b
      unfold ifl
      by_cases e : a = 2 ∧ i + 1 ≤ b ∧ b < 6
      · rw [if_pos e, if_pos e]
        dsimp only
        rw [iw_ne (by omega), iw_ne (by omega)]
      · rw [if_neg e, if_neg e]
theorem setM_L {K : Mm → Aa} {z : Int32 → Mm → Aa} : ∀ (d i N : Nat) (τ : IM), i + d = 6 → d < N → (∀ j, j < 6 → I32 (τ 4 j)) → mm_lk z (fX7_laws_L33 K) N (mI i) (enc τ) = K (enc (ifl τ 2 i 6 (fun j => if τ 4 j < 0 then τ 2 j else τ 4 j)))
  | d, i, 0, τ, _, h, _ => absurd h (Nat.not_lt_zero d)
  | 0, i, N + 1, τ, h, _, _ => by
    rw [mm_lk_s, fX7_laws_L33]
    simp (implicitDefEqProofs := false) (maxSteps := 1000000) (disch := omega) only [↓mm_lt_s, ↓cl_in, ↓cl_wi, ↓cl_has, ↓cl_isP, mL_le, lit_n, litL_n, mL_mI, mL_neg, mm_cl_s, mI_lt, mI_le, mI_eq, enc_at, enc_wr, enc_cp, mI_neg, mI_add, mI_sub, mI_mul, mI_ix, mm_ck_ok, mm_nz_ok, mm_bo_c, mm_bo_m0, mm_bo_m1, b01, Int.toNat_natCast, Int.reduceToNat, Int.reduceNeg, Int.reduceSub, Int.reduceAdd, Int.reduceMul, Int.reduceLT, Int.reduceLE, Int.reduceEq, ↓reduceIte, not_true, not_false_eq_true, not_true_eq_false, and_self, true_and, and_true, false_and, and_false, Decidable.not_not, stv1, stv2, stv3, stv4]
    repeat (first | rw [if_pos (by omega)] | rw [if_neg (by omega)])
    rw [ifl_nil (by omega)]
  | d + 1, i, N + 1, τ, h, h2, hr => by
    have q := hr i (by omega)
    rw [mm_lk_s, fX7_laws_L33]
    simp (implicitDefEqProofs := false) (maxSteps := 1000000) (disch := omega) only [cast_s, ↓mm_lt_s, ↓cl_in, ↓cl_wi, ↓cl_has, ↓cl_isP, mL_le, lit_n, litL_n, mL_mI, mL_neg, mm_cl_s, mI_lt, mI_le, mI_eq, enc_at, enc_wr, enc_cp, mI_neg, mI_add, mI_sub, mI_mul, mI_ix, mm_ck_ok, mm_nz_ok, mm_bo_c, mm_bo_m0, mm_bo_m1, b01, Int.toNat_natCast, Int.reduceToNat, Int.reduceNeg, Int.reduceSub, Int.reduceAdd, Int.reduceMul, Int.reduceLT, Int.reduceLE, Int.reduceEq, ↓reduceIte, not_true, not_false_eq_true, not_true_eq_false, and_self, true_and, and_true, false_and, and_false, Decidable.not_not, stv1, stv2, stv3, stv4]
    by_cases c : τ 4 i < 0
    · repeat (first | rw [if_pos (by omega)] | rw [if_neg (by omega)])
      rw [iw_self rfl, setM_L d (i + 1) N τ (by omega) (by omega) hr]
      congr 2
      rw [← ifl_step (σ := τ) (q := 2) (i := i) (hi := 6) (f := fun j => if τ 4 j < 0 then τ 2 j else τ 4 j) (v := τ 2 i) (by omega) (by rw [if_pos c]), iw_self rfl]
    · repeat (first | rw [if_pos (by omega)] | rw [if_neg (by omega)])
      rw [setM_L d (i + 1) N _ (by omega) (by omega) (fun j hj => by rw [iw_ne (by omega)]; exact hr j hj)]
      congr 2
      rw [← ifl_step (σ := τ) (q := 2) (i := i) (hi := 6) (f := fun j => if τ 4 j < 0 then τ 2 j else τ 4 j) (v := τ 4 i) (by omega) (by rw [if_neg c])]
      funext a b
      unfold ifl
      by_cases e : a = 2 ∧ i + 1 ≤ b ∧ b < 6
      · rw [if_pos e, if_pos e]
        dsimp only
        rw [iw_ne (by omega), iw_ne (by omega)]
      · rw [if_neg e, if_neg e]
/-- what reading leaves, and the tape empty -/
theorem RX.read {σ τ σ' τ' : IM} (h : RX σ τ) (f1 : FX σ σ') (f2 : FM τ τ') : RX (iw σ' 27 0 0) (iw τ' 0 5 0) := by
  have h1 : RX σ' τ' := h.cong (fun k j hk => f1 k j (by unfold keepX at hk; omega) (by unfold keepX at hk; omega)) (fun k j hk => f2 k j (by unfold keepM at hk; omega) (by unfold keepM at hk; omega))
  refine h1.tape (fun k j hk => iw_ne (by omega)) (fun k j h2 h3 => iw_ne (by omega)) ⟨⟨by rw [iw_eq rfl rfl, iw_eq rfl rfl], by rw [iw_eq rfl rfl]; omega, by rw [iw_eq rfl rfl]; omega⟩, fun i hi => ?_⟩
  rw [iw_eq rfl rfl] at hi
  omega
theorem RX.TP {σ τ : IM} (h : RX σ τ) : ∃ n : Nat, TP (iw σ 27 1 0) (iw τ 0 6 0) n 0 := by
  obtain ⟨⟨t1, t2, t3⟩, t4⟩ := h.2.2.1
  obtain ⟨n, hn⟩ := Int.eq_ofNat_of_zero_le t2
  refine ⟨n, ⟨by rw [iw_ne (by omega), t1, hn], by rw [iw_ne (by omega), hn], iw_eq rfl rfl, iw_eq rfl rfl, by omega, by omega⟩, fun i hi => ?_⟩
  rw [iw_ne (by omega), iw_ne (by omega)]
  exact t4 i (by omega)
theorem RX.setLaws {σ τ : IM} (h : RX σ τ) (hr : RD σ τ 6) : RX (ifl σ 2 0 6 (fun j => if σ 29 j < 0 then σ 2 j else σ 29 j)) (ifl τ 2 0 6 (fun j => if τ 4 j < 0 then τ 2 j else τ 4 j)) := by
  refine h.rest ?_ (fun k j h1 h2 => ifl_ne (by omega)) (fun k j h1 => ifl_ne (by omega))
  obtain ⟨b1, b2, b3, b4⟩ := h.1
  rw [ifl_ne (by omega), ifl_ne (by omega)]
  refine ⟨by rw [ifl_ne (by omega)]; exact b1, by rw [ifl_ne (by omega)]; exact b2, fun i hi => ?_, fun p hp => ?_⟩
  · rw [show 1 + 1 = 2 from rfl, ifl_in (by omega) hi, ifl_in (by omega) hi, (hr i hi).1]
    have q := lawB i
    by_cases c : τ 4 i < 0
    · rw [if_pos c, if_pos c]; exact b3 i hi
    · rw [if_neg c, if_neg c]
      refine ⟨rfl, ?_⟩
      rcases (hr i hi).2 with e | e
      · omega
      · exact e
  · obtain ⟨d1, d2, d3⟩ := b4 p hp
    refine ⟨fun j hj => ?_, ?_, ?_⟩
    · rw [ifl_ne (by omega), ifl_ne (by omega)]; exact d1 j hj
    · rw [ifl_ne (by omega), ifl_ne (by omega)]; exact d2
    · rw [ifl_ne (by omega)]; exact d3
theorem q_laws {σ τ : IM} (h : RX σ τ) : Like (fX6_laws (enc σ)) (fX7_laws (enc τ)) := by
  obtain ⟨n, hT⟩ := h.TP
  have hT' : TP (iw σ 27 1 0) (iw (iw τ 0 6 0) 0 7 0) n 0 := hT.cong (fun _ _ _ => rfl) (fun j => iw_ne (by omega)) (iw_ne (by omega)) (iw_ne (by omega))
  obtain ⟨σ', τ', q, t', f1, f2, f3, f4⟩ := lawsL 6 0 0 0 _ _ (by omega) (by omega) (by omega) hT' (iw_eq rfl rfl) (fun j hj => by omega)
  have F1 : FX σ σ' := FX.pl.tr f1
  have F2 : FM τ τ' := (FM.pl.tr FM.ct).tr f2
  have R := h.read F1 F2
  obtain ⟨⟨a1, a2, a3, a4, a5, a6⟩, a7⟩ := id f3
  obtain ⟨q2, p1, p2, p3, p4, p5, p6⟩ := peekP f3
  have u1 : iw σ' 27 1 (q2 : Int) 27 1 = (q2 : Int) := iw_eq rfl rfl
  have u2 : iw τ' 0 6 (q2 : Int) 0 6 = (q2 : Int) := iw_eq rfl rfl
  have u3 : iw (iw τ' 0 6 (q2 : Int)) 0 5 0 0 6 = (q2 : Int) := by rw [iw_ne (by omega)]; exact u2
  have u4 : iw (iw τ' 0 6 (q : Int)) 0 5 0 0 6 = (q : Int) := by rw [iw_ne (by omega)]; exact iw_eq rfl rfl
  have hnx : I32 (nxB τ' n q2) ∧ (nxB τ' n q2 = -1 ∨ 0 ≤ nxB τ' n q2) := by
    unfold nxB
    by_cases c : q2 < n
    · have := a7 q2 c
      rw [if_pos c]; omega
    · rw [if_neg c]; omega
  unfold fX6_laws fX7_laws fX4_readLaws fX7_readLaws
  generalize hfu : mm_fu = NF; have hNF : 4096 ≤ NF := by rw [← hfu]; exact Nat.le_refl _
  rcases f4 with ⟨g1, g2, g3⟩ | ⟨g1, g2, g4, g5, g6, g7, g8⟩
  · have G1 := g1 NF (by omega)
    have G2 := g2 NF (by omega)
    rw [cast0] at G1 G2
    have e1 := p6 g3
    subst e1
    have e2 : iw τ' 0 6 (q2 : Int) = τ' := iw_self a4
    have u5 : iw τ' 0 5 0 0 6 = (q2 : Int) := by rw [iw_ne (by omega)]; exact a4
    simp (implicitDefEqProofs := false) (maxSteps := 1000000) (disch := omega) only [↓mm_lt_s, ↓cl_in, ↓cl_wi, ↓cl_has, ↓cl_isP, mL_le, lit_n, litL_n, mL_mI, mL_neg, mm_cl_s, mI_lt, mI_le, mI_eq, enc_at, enc_wr, enc_cp, mI_neg, mI_add, mI_sub, mI_mul, mI_ix, mm_ck_ok, mm_nz_ok, mm_bo_c, mm_bo_m0, mm_bo_m1, b01, Int.toNat_natCast, Int.reduceToNat, Int.reduceNeg, Int.reduceSub, Int.reduceAdd, Int.reduceMul, Int.reduceLT, Int.reduceLE, Int.reduceEq, ↓reduceIte, not_true, not_false_eq_true, not_true_eq_false, and_self, true_and, and_true, false_and, and_false, Decidable.not_not, stv1, stv2, stv3, stv4]
    rw [G1, G2]
    unfold fX4_fault
    simp (implicitDefEqProofs := false) (maxSteps := 1000000) (disch := omega) only [a3, ↓mm_lt_s, ↓cl_in, ↓cl_wi, ↓cl_has, ↓cl_isP, mL_le, lit_n, litL_n, mL_mI, mL_neg, mm_cl_s, mI_lt, mI_le, mI_eq, enc_at, enc_wr, enc_cp, mI_neg, mI_add, mI_sub, mI_mul, mI_ix, mm_ck_ok, mm_nz_ok, mm_bo_c, mm_bo_m0, mm_bo_m1, b01, Int.toNat_natCast, Int.reduceToNat, Int.reduceNeg, Int.reduceSub, Int.reduceAdd, Int.reduceMul, Int.reduceLT, Int.reduceLE, Int.reduceEq, ↓reduceIte, not_true, not_false_eq_true, not_true_eq_false, and_self, true_and, and_true, false_and, and_false, Decidable.not_not, stv1, stv2, stv3, stv4]
    rw [p5, e2]
    simp (implicitDefEqProofs := false) (maxSteps := 1000000) (disch := omega) only [u5, ↓mm_lt_s, ↓cl_in, ↓cl_wi, ↓cl_has, ↓cl_isP, mL_le, lit_n, litL_n, mL_mI, mL_neg, mm_cl_s, mI_lt, mI_le, mI_eq, enc_at, enc_wr, enc_cp, mI_neg, mI_add, mI_sub, mI_mul, mI_ix, mm_ck_ok, mm_nz_ok, mm_bo_c, mm_bo_m0, mm_bo_m1, b01, Int.toNat_natCast, Int.reduceToNat, Int.reduceNeg, Int.reduceSub, Int.reduceAdd, Int.reduceMul, Int.reduceLT, Int.reduceLE, Int.reduceEq, ↓reduceIte, not_true, not_false_eq_true, not_true_eq_false, and_self, true_and, and_true, false_and, and_false, Decidable.not_not, stv1, stv2, stv3, stv4]
    repeat (first | rw [if_pos (by omega)] | rw [if_neg (by omega)])
    exact Like.mk rfl rfl R
  · have G1 := g1 NF (by omega)
    have G2 := g2 NF (by omega)
    rw [cast0] at G1 G2
    simp (implicitDefEqProofs := false) (maxSteps := 1000000) (disch := omega) only [↓mm_lt_s, ↓cl_in, ↓cl_wi, ↓cl_has, ↓cl_isP, mL_le, lit_n, litL_n, mL_mI, mL_neg, mm_cl_s, mI_lt, mI_le, mI_eq, enc_at, enc_wr, enc_cp, mI_neg, mI_add, mI_sub, mI_mul, mI_ix, mm_ck_ok, mm_nz_ok, mm_bo_c, mm_bo_m0, mm_bo_m1, b01, Int.toNat_natCast, Int.reduceToNat, Int.reduceNeg, Int.reduceSub, Int.reduceAdd, Int.reduceMul, Int.reduceLT, Int.reduceLE, Int.reduceEq, ↓reduceIte, not_true, not_false_eq_true, not_true_eq_false, and_self, true_and, and_true, false_and, and_false, Decidable.not_not, stv1, stv2, stv3, stv4]
    rw [G1, G2]
    by_cases c1 : t' = 0
    · have e1 : q2 = q := by
        rcases g8 with g8 | g8 | g8
        · exact absurd c1 g8
        · exact p6 g8
        · omega
      subst e1
      have e2 : iw τ' 0 6 (q2 : Int) = τ' := iw_self a4
      have u5 : iw τ' 0 5 0 0 6 = (q2 : Int) := by rw [iw_ne (by omega)]; exact a4
      subst c1
      unfold fX4_fault
      simp (implicitDefEqProofs := false) (maxSteps := 1000000) (disch := omega) only [a3, g6, ↓mm_lt_s, ↓cl_in, ↓cl_wi, ↓cl_has, ↓cl_isP, mL_le, lit_n, litL_n, mL_mI, mL_neg, mm_cl_s, mI_lt, mI_le, mI_eq, enc_at, enc_wr, enc_cp, mI_neg, mI_add, mI_sub, mI_mul, mI_ix, mm_ck_ok, mm_nz_ok, mm_bo_c, mm_bo_m0, mm_bo_m1, b01, Int.toNat_natCast, Int.reduceToNat, Int.reduceNeg, Int.reduceSub, Int.reduceAdd, Int.reduceMul, Int.reduceLT, Int.reduceLE, Int.reduceEq, ↓reduceIte, not_true, not_false_eq_true, not_true_eq_false, and_self, true_and, and_true, false_and, and_false, Decidable.not_not, stv1, stv2, stv3, stv4]
      rw [p5, e2]
      simp (implicitDefEqProofs := false) (maxSteps := 1000000) (disch := omega) only [u5, ↓mm_lt_s, ↓cl_in, ↓cl_wi, ↓cl_has, ↓cl_isP, mL_le, lit_n, litL_n, mL_mI, mL_neg, mm_cl_s, mI_lt, mI_le, mI_eq, enc_at, enc_wr, enc_cp, mI_neg, mI_add, mI_sub, mI_mul, mI_ix, mm_ck_ok, mm_nz_ok, mm_bo_c, mm_bo_m0, mm_bo_m1, b01, Int.toNat_natCast, Int.reduceToNat, Int.reduceNeg, Int.reduceSub, Int.reduceAdd, Int.reduceMul, Int.reduceLT, Int.reduceLE, Int.reduceEq, ↓reduceIte, not_true, not_false_eq_true, not_true_eq_false, and_self, true_and, and_true, false_and, and_false, Decidable.not_not, stv1, stv2, stv3, stv4]
      repeat (first | rw [if_pos (by omega)] | rw [if_neg (by omega)])
      exact Like.mk rfl rfl R
    · have R2 := h.read (F1.tr (FX.pl (v := q2))) (F2.tr (FM.pl (v := q2)))
      have hq : atB (iw τ' 0 6 (q2 : Int)) n q2 := by unfold atB at p3 ⊢; rw [iw_ne (by omega)]; exact p3
      obtain ⟨q3, r1, r2, r3, r4, r5, r6⟩ := peekP (f3.to p2)
      have e3 := r6 hq
      subst e3
      rw [iw_iw] at r4 r5
      have v1 : iw (iw τ' 0 6 (q3 : Int)) 0 5 0 0 6 = (q3 : Int) := by rw [iw_ne (by omega)]; exact iw_eq rfl rfl
      have hRD : RD (iw (iw σ' 27 1 (q3 : Int)) 27 0 0) (iw (iw τ' 0 6 (q3 : Int)) 0 5 0) 6 := fun j hj => by
        rw [iw_ne (by omega), iw_ne (by omega), iw_ne (by omega), iw_ne (by omega)]; exact g7 j hj
      by_cases c2 : nxB τ' n q3 = -1
      · have R3 := R2.setLaws hRD
        simp (implicitDefEqProofs := false) (maxSteps := 1000000) (disch := omega) only [g6, ↓mm_lt_s, ↓cl_in, ↓cl_wi, ↓cl_has, ↓cl_isP, mL_le, lit_n, litL_n, mL_mI, mL_neg, mm_cl_s, mI_lt, mI_le, mI_eq, enc_at, enc_wr, enc_cp, mI_neg, mI_add, mI_sub, mI_mul, mI_ix, mm_ck_ok, mm_nz_ok, mm_bo_c, mm_bo_m0, mm_bo_m1, b01, Int.toNat_natCast, Int.reduceToNat, Int.reduceNeg, Int.reduceSub, Int.reduceAdd, Int.reduceMul, Int.reduceLT, Int.reduceLE, Int.reduceEq, ↓reduceIte, not_true, not_false_eq_true, not_true_eq_false, and_self, true_and, and_true, false_and, and_false, Decidable.not_not, stv1, stv2, stv3, stv4]
        rw [p4, p5, c2]
        simp (implicitDefEqProofs := false) (maxSteps := 1000000) (disch := omega) only [↓mm_lt_s, ↓cl_in, ↓cl_wi, ↓cl_has, ↓cl_isP, mL_le, lit_n, litL_n, mL_mI, mL_neg, mm_cl_s, mI_lt, mI_le, mI_eq, enc_at, enc_wr, enc_cp, mI_neg, mI_add, mI_sub, mI_mul, mI_ix, mm_ck_ok, mm_nz_ok, mm_bo_c, mm_bo_m0, mm_bo_m1, b01, Int.toNat_natCast, Int.reduceToNat, Int.reduceNeg, Int.reduceSub, Int.reduceAdd, Int.reduceMul, Int.reduceLT, Int.reduceLE, Int.reduceEq, ↓reduceIte, not_true, not_false_eq_true, not_true_eq_false, and_self, true_and, and_true, false_and, and_false, Decidable.not_not, stv1, stv2, stv3, stv4]
        repeat (first | rw [if_pos (by omega)] | rw [if_neg (by omega)])
        simp (implicitDefEqProofs := false) (maxSteps := 1000000) (disch := omega) only [↓mm_lt_s, ↓cl_in, ↓cl_wi, ↓cl_has, ↓cl_isP, mL_le, lit_n, litL_n, mL_mI, mL_neg, mm_cl_s, mI_lt, mI_le, mI_eq, enc_at, enc_wr, enc_cp, mI_neg, mI_add, mI_sub, mI_mul, mI_ix, mm_ck_ok, mm_nz_ok, mm_bo_c, mm_bo_m0, mm_bo_m1, b01, Int.toNat_natCast, Int.reduceToNat, Int.reduceNeg, Int.reduceSub, Int.reduceAdd, Int.reduceMul, Int.reduceLT, Int.reduceLE, Int.reduceEq, ↓reduceIte, not_true, not_false_eq_true, not_true_eq_false, and_self, true_and, and_true, false_and, and_false, Decidable.not_not, stv1, stv2, stv3, stv4]
        have hI : ∀ j, j < 6 → I32 (iw (iw τ' 0 6 (q3 : Int)) 0 5 0 4 j) := fun j hj => by
          have := (hRD j hj).2
          have := lawB j
          have := lawB2 j
          omega
        have X := setX_L (K := fun m6 => some (mI t', m6)) (z := fun _ _ => none) 6 0 NF (iw (iw σ' 27 1 (q3 : Int)) 27 0 0) (by omega) (by omega) (fun j hj => by rw [(hRD j hj).1]; exact hI j hj)
        have M := setM_L (K := fun m7 => some (m7 0 7, m7)) (z := fun _ _ => none) 6 0 NF (iw (iw τ' 0 6 (q3 : Int)) 0 5 0) (by omega) (by omega) hI
        rw [cast0] at X M
        rw [X, M]
        simp (implicitDefEqProofs := false) (maxSteps := 1000000) (disch := omega) only [↓mm_lt_s, ↓cl_in, ↓cl_wi, ↓cl_has, ↓cl_isP, mL_le, lit_n, litL_n, mL_mI, mL_neg, mm_cl_s, mI_lt, mI_le, mI_eq, enc_at, enc_wr, enc_cp, mI_neg, mI_add, mI_sub, mI_mul, mI_ix, mm_ck_ok, mm_nz_ok, mm_bo_c, mm_bo_m0, mm_bo_m1, b01, Int.toNat_natCast, Int.reduceToNat, Int.reduceNeg, Int.reduceSub, Int.reduceAdd, Int.reduceMul, Int.reduceLT, Int.reduceLE, Int.reduceEq, ↓reduceIte, not_true, not_false_eq_true, not_true_eq_false, and_self, true_and, and_true, false_and, and_false, Decidable.not_not, stv1, stv2, stv3, stv4]
        rw [ifl_ne (by omega), iw_ne (by omega), iw_ne (by omega), g6]
        repeat (first | rw [if_pos (by omega)] | rw [if_neg (by omega)])
        exact Like.mk rfl rfl R3
      · simp (implicitDefEqProofs := false) (maxSteps := 1000000) (disch := omega) only [g6, ↓mm_lt_s, ↓cl_in, ↓cl_wi, ↓cl_has, ↓cl_isP, mL_le, lit_n, litL_n, mL_mI, mL_neg, mm_cl_s, mI_lt, mI_le, mI_eq, enc_at, enc_wr, enc_cp, mI_neg, mI_add, mI_sub, mI_mul, mI_ix, mm_ck_ok, mm_nz_ok, mm_bo_c, mm_bo_m0, mm_bo_m1, b01, Int.toNat_natCast, Int.reduceToNat, Int.reduceNeg, Int.reduceSub, Int.reduceAdd, Int.reduceMul, Int.reduceLT, Int.reduceLE, Int.reduceEq, ↓reduceIte, not_true, not_false_eq_true, not_true_eq_false, and_self, true_and, and_true, false_and, and_false, Decidable.not_not, stv1, stv2, stv3, stv4]
        rw [p4, p5]
        unfold fX4_fault
        simp (implicitDefEqProofs := false) (maxSteps := 1000000) (disch := omega) only [u1, ↓mm_lt_s, ↓cl_in, ↓cl_wi, ↓cl_has, ↓cl_isP, mL_le, lit_n, litL_n, mL_mI, mL_neg, mm_cl_s, mI_lt, mI_le, mI_eq, enc_at, enc_wr, enc_cp, mI_neg, mI_add, mI_sub, mI_mul, mI_ix, mm_ck_ok, mm_nz_ok, mm_bo_c, mm_bo_m0, mm_bo_m1, b01, Int.toNat_natCast, Int.reduceToNat, Int.reduceNeg, Int.reduceSub, Int.reduceAdd, Int.reduceMul, Int.reduceLT, Int.reduceLE, Int.reduceEq, ↓reduceIte, not_true, not_false_eq_true, not_true_eq_false, and_self, true_and, and_true, false_and, and_false, Decidable.not_not, stv1, stv2, stv3, stv4]
        repeat (first | rw [if_pos (by omega)] | rw [if_neg (by omega)])
        simp (implicitDefEqProofs := false) (maxSteps := 1000000) (disch := omega) only [u1, ↓mm_lt_s, ↓cl_in, ↓cl_wi, ↓cl_has, ↓cl_isP, mL_le, lit_n, litL_n, mL_mI, mL_neg, mm_cl_s, mI_lt, mI_le, mI_eq, enc_at, enc_wr, enc_cp, mI_neg, mI_add, mI_sub, mI_mul, mI_ix, mm_ck_ok, mm_nz_ok, mm_bo_c, mm_bo_m0, mm_bo_m1, b01, Int.toNat_natCast, Int.reduceToNat, Int.reduceNeg, Int.reduceSub, Int.reduceAdd, Int.reduceMul, Int.reduceLT, Int.reduceLE, Int.reduceEq, ↓reduceIte, not_true, not_false_eq_true, not_true_eq_false, and_self, true_and, and_true, false_and, and_false, Decidable.not_not, stv1, stv2, stv3, stv4]
        rw [r5]
        simp (implicitDefEqProofs := false) (maxSteps := 1000000) (disch := omega) only [v1, ↓mm_lt_s, ↓cl_in, ↓cl_wi, ↓cl_has, ↓cl_isP, mL_le, lit_n, litL_n, mL_mI, mL_neg, mm_cl_s, mI_lt, mI_le, mI_eq, enc_at, enc_wr, enc_cp, mI_neg, mI_add, mI_sub, mI_mul, mI_ix, mm_ck_ok, mm_nz_ok, mm_bo_c, mm_bo_m0, mm_bo_m1, b01, Int.toNat_natCast, Int.reduceToNat, Int.reduceNeg, Int.reduceSub, Int.reduceAdd, Int.reduceMul, Int.reduceLT, Int.reduceLE, Int.reduceEq, ↓reduceIte, not_true, not_false_eq_true, not_true_eq_false, and_self, true_and, and_true, false_and, and_false, Decidable.not_not, stv1, stv2, stv3, stv4]
        repeat (first | rw [if_pos (by omega)] | rw [if_neg (by omega)])
        exact Like.mk rfl rfl R2
