theorem c16 (c : Nat) (h : c < 65536) : ((mI c).toUInt32 % 65536).toInt32 = mI c := by
  have := pk_char (mI c)
  rw [this, show (mI (c : Int)).toBitVec.toNat = c from pk_tn (n := c) (by omega), Nat.mod_eq_of_lt h]
  rfl
theorem b8 : ∀ c, c < 128 → (mI ((c : Nat) : Int)).toInt8.toInt32 = mI c := by decide
theorem can_s (c : Nat) (h : c < 128) (μ : Mm) : fJ1_canEncode (mI c) μ = some (mI 1, μ) := by
  unfold fJ1_canEncode
  simp (implicitDefEqProofs := false) (maxSteps := 1000000) (disch := omega) only [↓mm_lt_s, ↓cl_in, ↓cl_wi, ↓cl_has, ↓cl_isP, mL_le, lit_n, litL_n, mL_mI, mL_neg, mm_cl_s, mI_lt, mI_le, mI_eq, enc_at, enc_wr, enc_cp, mI_neg, mI_add, mI_sub, mI_mul, mI_ix, mm_ck_ok, mm_nz_ok, mm_bo_c, mm_bo_m0, mm_bo_m1, b01, Int.toNat_natCast, Int.reduceToNat, Int.reduceNeg, Int.reduceSub, Int.reduceAdd, Int.reduceMul, Int.reduceLT, Int.reduceLE, Int.reduceEq, ↓reduceIte, not_true, not_false_eq_true, not_true_eq_false, and_self, true_and, and_true, false_and, and_false, Decidable.not_not, stv1, stv2, stv3, stv4]
  repeat (first | rw [if_pos (by omega)] | rw [if_neg (by omega)])
def lt1 (c : Int) : Int := if c = 110 then 0 else if c = 115 then 1 else -1
def lt2 (c : Int) : Int := if c = 119 then 0 else if c = 114 then 1 else if c = 108 then 2 else if c = 115 then 3 else -1
theorem cod_s (i : Nat) (μ : Mm) : fJ0_coder i μ = some (mI 0, μ) := by
  unfold fJ0_coder mm_rg
  simp (implicitDefEqProofs := false) (maxSteps := 1000000) (disch := omega) only [↓mm_lt_s, ↓cl_in, ↓cl_wi, ↓cl_has, ↓cl_isP, mL_le, lit_n, litL_n, mL_mI, mL_neg, mm_cl_s, mI_lt, mI_le, mI_eq, enc_at, enc_wr, enc_cp, mI_neg, mI_add, mI_sub, mI_mul, mI_ix, mm_ck_ok, mm_nz_ok, mm_bo_c, mm_bo_m0, mm_bo_m1, b01, Int.toNat_natCast, Int.reduceToNat, Int.reduceNeg, Int.reduceSub, Int.reduceAdd, Int.reduceMul, Int.reduceLT, Int.reduceLE, Int.reduceEq, ↓reduceIte, not_true, not_false_eq_true, not_true_eq_false, and_self, true_and, and_true, false_and, and_false, Decidable.not_not, stv1, stv2, stv3, stv4]
theorem len_s (μ : Mm) : fJ0_length 1 μ = some (mI 2, μ) ∧ fJ0_length 2 μ = some (mI 4, μ) := by
  have h1 : Int32.ofNat (mm_len.getD 1 0) >>> (mI 0 &&& 31) = mI 2 := by decide
  have h2 : Int32.ofNat (mm_len.getD 2 0) >>> (mI 0 &&& 31) = mI 4 := by decide
  unfold fJ0_length
  rw [cod_s, cod_s, mm_cl_s, mm_cl_s, h1, h2]
  exact ⟨rfl, rfl⟩
theorem ix1 (c : Nat) (h : c < 128) (μ : Mm) : fJ0_indexOf 1 (mI c) μ = some (mI (lt1 c), μ) := by
  have e1 : fJ0_isLatin1 1 μ = some (mI 1, μ) := rfl
  have e2 := (len_s μ).1
  have e3 : mm_len.getD 1 0 = 2 := rfl
  have e4 : Int32.ofNat 2 = mI 2 := rfl
  have g0 : (mm_byt.getD 1 []).getD 0 (mI 0) = mI 110 := rfl
  have g1 : (mm_byt.getD 1 []).getD 1 (mI 0) = mI 115 := rfl
  unfold fJ0_indexOf fJ0_indexOf2
  rw [e1]
  simp (implicitDefEqProofs := false) (maxSteps := 1000000) (disch := omega) only [↓mm_lt_s, ↓cl_in, ↓cl_wi, ↓cl_has, ↓cl_isP, mL_le, lit_n, litL_n, mL_mI, mL_neg, mm_cl_s, mI_lt, mI_le, mI_eq, enc_at, enc_wr, enc_cp, mI_neg, mI_add, mI_sub, mI_mul, mI_ix, mm_ck_ok, mm_nz_ok, mm_bo_c, mm_bo_m0, mm_bo_m1, b01, Int.toNat_natCast, Int.reduceToNat, Int.reduceNeg, Int.reduceSub, Int.reduceAdd, Int.reduceMul, Int.reduceLT, Int.reduceLE, Int.reduceEq, ↓reduceIte, not_true, not_false_eq_true, not_true_eq_false, and_self, true_and, and_true, false_and, and_false, Decidable.not_not, stv1, stv2, stv3, stv4]
  rw [e2, mm_cl_s]
  unfold fJ1_indexOf
  rw [can_s c h]
  simp (implicitDefEqProofs := false) (maxSteps := 1000000) (disch := omega) only [e3, e4, ↓mm_lt_s, ↓cl_in, ↓cl_wi, ↓cl_has, ↓cl_isP, mL_le, lit_n, litL_n, mL_mI, mL_neg, mm_cl_s, mI_lt, mI_le, mI_eq, enc_at, enc_wr, enc_cp, mI_neg, mI_add, mI_sub, mI_mul, mI_ix, mm_ck_ok, mm_nz_ok, mm_bo_c, mm_bo_m0, mm_bo_m1, b01, Int.toNat_natCast, Int.reduceToNat, Int.reduceNeg, Int.reduceSub, Int.reduceAdd, Int.reduceMul, Int.reduceLT, Int.reduceLE, Int.reduceEq, ↓reduceIte, not_true, not_false_eq_true, not_true_eq_false, and_self, true_and, and_true, false_and, and_false, Decidable.not_not, stv1, stv2, stv3, stv4]
  unfold fJ1_indexOfChar
  generalize hfu : mm_fu = NF; have hNF : 4096 ≤ NF := by rw [← hfu]; exact Nat.le_refl _
  simp (implicitDefEqProofs := false) (maxSteps := 1000000) (disch := omega) only [b8 c h, ↓mm_lt_s, ↓cl_in, ↓cl_wi, ↓cl_has, ↓cl_isP, mL_le, lit_n, litL_n, mL_mI, mL_neg, mm_cl_s, mI_lt, mI_le, mI_eq, enc_at, enc_wr, enc_cp, mI_neg, mI_add, mI_sub, mI_mul, mI_ix, mm_ck_ok, mm_nz_ok, mm_bo_c, mm_bo_m0, mm_bo_m1, b01, Int.toNat_natCast, Int.reduceToNat, Int.reduceNeg, Int.reduceSub, Int.reduceAdd, Int.reduceMul, Int.reduceLT, Int.reduceLE, Int.reduceEq, ↓reduceIte, not_true, not_false_eq_true, not_true_eq_false, and_self, true_and, and_true, false_and, and_false, Decidable.not_not, stv1, stv2, stv3, stv4]
  obtain ⟨M, rfl⟩ : ∃ M, NF = M + 3 := ⟨NF - 3, by omega⟩
  rw [mm_lk_s, fJ1_indexOfChar_L7]
  simp (implicitDefEqProofs := false) (maxSteps := 1000000) (disch := omega) only [e3, g0, ↓mm_lt_s, ↓cl_in, ↓cl_wi, ↓cl_has, ↓cl_isP, mL_le, lit_n, litL_n, mL_mI, mL_neg, mm_cl_s, mI_lt, mI_le, mI_eq, enc_at, enc_wr, enc_cp, mI_neg, mI_add, mI_sub, mI_mul, mI_ix, mm_ck_ok, mm_nz_ok, mm_bo_c, mm_bo_m0, mm_bo_m1, b01, Int.toNat_natCast, Int.reduceToNat, Int.reduceNeg, Int.reduceSub, Int.reduceAdd, Int.reduceMul, Int.reduceLT, Int.reduceLE, Int.reduceEq, ↓reduceIte, not_true, not_false_eq_true, not_true_eq_false, and_self, true_and, and_true, false_and, and_false, Decidable.not_not, stv1, stv2, stv3, stv4]
  rw [mm_lk_s, fJ1_indexOfChar_L7]
  simp (implicitDefEqProofs := false) (maxSteps := 1000000) (disch := omega) only [e3, g1, ↓mm_lt_s, ↓cl_in, ↓cl_wi, ↓cl_has, ↓cl_isP, mL_le, lit_n, litL_n, mL_mI, mL_neg, mm_cl_s, mI_lt, mI_le, mI_eq, enc_at, enc_wr, enc_cp, mI_neg, mI_add, mI_sub, mI_mul, mI_ix, mm_ck_ok, mm_nz_ok, mm_bo_c, mm_bo_m0, mm_bo_m1, b01, Int.toNat_natCast, Int.reduceToNat, Int.reduceNeg, Int.reduceSub, Int.reduceAdd, Int.reduceMul, Int.reduceLT, Int.reduceLE, Int.reduceEq, ↓reduceIte, not_true, not_false_eq_true, not_true_eq_false, and_self, true_and, and_true, false_and, and_false, Decidable.not_not, stv1, stv2, stv3, stv4]
  rw [mm_lk_s, fJ1_indexOfChar_L7]
  simp (implicitDefEqProofs := false) (maxSteps := 1000000) (disch := omega) only [e3, ↓mm_lt_s, ↓cl_in, ↓cl_wi, ↓cl_has, ↓cl_isP, mL_le, lit_n, litL_n, mL_mI, mL_neg, mm_cl_s, mI_lt, mI_le, mI_eq, enc_at, enc_wr, enc_cp, mI_neg, mI_add, mI_sub, mI_mul, mI_ix, mm_ck_ok, mm_nz_ok, mm_bo_c, mm_bo_m0, mm_bo_m1, b01, Int.toNat_natCast, Int.reduceToNat, Int.reduceNeg, Int.reduceSub, Int.reduceAdd, Int.reduceMul, Int.reduceLT, Int.reduceLE, Int.reduceEq, ↓reduceIte, not_true, not_false_eq_true, not_true_eq_false, and_self, true_and, and_true, false_and, and_false, Decidable.not_not, stv1, stv2, stv3, stv4]
  unfold lt1
  by_cases c1 : (c : Int) = 110
  · repeat (first | rw [if_pos (by omega)] | rw [if_neg (by omega)])
    simp (implicitDefEqProofs := false) (maxSteps := 1000000) (disch := omega) only [↓mm_lt_s, ↓cl_in, ↓cl_wi, ↓cl_has, ↓cl_isP, mL_le, lit_n, litL_n, mL_mI, mL_neg, mm_cl_s, mI_lt, mI_le, mI_eq, enc_at, enc_wr, enc_cp, mI_neg, mI_add, mI_sub, mI_mul, mI_ix, mm_ck_ok, mm_nz_ok, mm_bo_c, mm_bo_m0, mm_bo_m1, b01, Int.toNat_natCast, Int.reduceToNat, Int.reduceNeg, Int.reduceSub, Int.reduceAdd, Int.reduceMul, Int.reduceLT, Int.reduceLE, Int.reduceEq, ↓reduceIte, not_true, not_false_eq_true, not_true_eq_false, and_self, true_and, and_true, false_and, and_false, Decidable.not_not, stv1, stv2, stv3, stv4]
    repeat (first | rw [if_pos (by omega)] | rw [if_neg (by omega)])
  · by_cases c2 : (c : Int) = 115
    · repeat (first | rw [if_pos (by omega)] | rw [if_neg (by omega)])
      simp (implicitDefEqProofs := false) (maxSteps := 1000000) (disch := omega) only [↓mm_lt_s, ↓cl_in, ↓cl_wi, ↓cl_has, ↓cl_isP, mL_le, lit_n, litL_n, mL_mI, mL_neg, mm_cl_s, mI_lt, mI_le, mI_eq, enc_at, enc_wr, enc_cp, mI_neg, mI_add, mI_sub, mI_mul, mI_ix, mm_ck_ok, mm_nz_ok, mm_bo_c, mm_bo_m0, mm_bo_m1, b01, Int.toNat_natCast, Int.reduceToNat, Int.reduceNeg, Int.reduceSub, Int.reduceAdd, Int.reduceMul, Int.reduceLT, Int.reduceLE, Int.reduceEq, ↓reduceIte, not_true, not_false_eq_true, not_true_eq_false, and_self, true_and, and_true, false_and, and_false, Decidable.not_not, stv1, stv2, stv3, stv4]
      repeat (first | rw [if_pos (by omega)] | rw [if_neg (by omega)])
    · repeat (first | rw [if_pos (by omega)] | rw [if_neg (by omega)])
      simp (implicitDefEqProofs := false) (maxSteps := 1000000) (disch := omega) only [↓mm_lt_s, ↓cl_in, ↓cl_wi, ↓cl_has, ↓cl_isP, mL_le, lit_n, litL_n, mL_mI, mL_neg, mm_cl_s, mI_lt, mI_le, mI_eq, enc_at, enc_wr, enc_cp, mI_neg, mI_add, mI_sub, mI_mul, mI_ix, mm_ck_ok, mm_nz_ok, mm_bo_c, mm_bo_m0, mm_bo_m1, b01, Int.toNat_natCast, Int.reduceToNat, Int.reduceNeg, Int.reduceSub, Int.reduceAdd, Int.reduceMul, Int.reduceLT, Int.reduceLE, Int.reduceEq, ↓reduceIte, not_true, not_false_eq_true, not_true_eq_false, and_self, true_and, and_true, false_and, and_false, Decidable.not_not, stv1, stv2, stv3, stv4]
      repeat (first | rw [if_pos (by omega)] | rw [if_neg (by omega)])
theorem ix2 (c : Nat) (h : c < 128) (μ : Mm) : fJ0_indexOf 2 (mI c) μ = some (mI (lt2 c), μ) := by
  have e1 : fJ0_isLatin1 2 μ = some (mI 1, μ) := rfl
  have e2 := (len_s μ).2
  have e3 : mm_len.getD 2 0 = 4 := rfl
  have e4 : Int32.ofNat 4 = mI 4 := rfl
  have g0 : (mm_byt.getD 2 []).getD 0 (mI 0) = mI 119 := rfl
  have g1 : (mm_byt.getD 2 []).getD 1 (mI 0) = mI 114 := rfl
  have g2 : (mm_byt.getD 2 []).getD 2 (mI 0) = mI 108 := rfl
  have g3 : (mm_byt.getD 2 []).getD 3 (mI 0) = mI 115 := rfl
  unfold fJ0_indexOf fJ0_indexOf2
  rw [e1]
  simp (implicitDefEqProofs := false) (maxSteps := 1000000) (disch := omega) only [↓mm_lt_s, ↓cl_in, ↓cl_wi, ↓cl_has, ↓cl_isP, mL_le, lit_n, litL_n, mL_mI, mL_neg, mm_cl_s, mI_lt, mI_le, mI_eq, enc_at, enc_wr, enc_cp, mI_neg, mI_add, mI_sub, mI_mul, mI_ix, mm_ck_ok, mm_nz_ok, mm_bo_c, mm_bo_m0, mm_bo_m1, b01, Int.toNat_natCast, Int.reduceToNat, Int.reduceNeg, Int.reduceSub, Int.reduceAdd, Int.reduceMul, Int.reduceLT, Int.reduceLE, Int.reduceEq, ↓reduceIte, not_true, not_false_eq_true, not_true_eq_false, and_self, true_and, and_true, false_and, and_false, Decidable.not_not, stv1, stv2, stv3, stv4]
  rw [e2, mm_cl_s]
  unfold fJ1_indexOf
  rw [can_s c h]
  simp (implicitDefEqProofs := false) (maxSteps := 1000000) (disch := omega) only [e3, e4, ↓mm_lt_s, ↓cl_in, ↓cl_wi, ↓cl_has, ↓cl_isP, mL_le, lit_n, litL_n, mL_mI, mL_neg, mm_cl_s, mI_lt, mI_le, mI_eq, enc_at, enc_wr, enc_cp, mI_neg, mI_add, mI_sub, mI_mul, mI_ix, mm_ck_ok, mm_nz_ok, mm_bo_c, mm_bo_m0, mm_bo_m1, b01, Int.toNat_natCast, Int.reduceToNat, Int.reduceNeg, Int.reduceSub, Int.reduceAdd, Int.reduceMul, Int.reduceLT, Int.reduceLE, Int.reduceEq, ↓reduceIte, not_true, not_false_eq_true, not_true_eq_false, and_self, true_and, and_true, false_and, and_false, Decidable.not_not, stv1, stv2, stv3, stv4]
  unfold fJ1_indexOfChar
  generalize hfu : mm_fu = NF; have hNF : 4096 ≤ NF := by rw [← hfu]; exact Nat.le_refl _
  simp (implicitDefEqProofs := false) (maxSteps := 1000000) (disch := omega) only [b8 c h, ↓mm_lt_s, ↓cl_in, ↓cl_wi, ↓cl_has, ↓cl_isP, mL_le, lit_n, litL_n, mL_mI, mL_neg, mm_cl_s, mI_lt, mI_le, mI_eq, enc_at, enc_wr, enc_cp, mI_neg, mI_add, mI_sub, mI_mul, mI_ix, mm_ck_ok, mm_nz_ok, mm_bo_c, mm_bo_m0, mm_bo_m1, b01, Int.toNat_natCast, Int.reduceToNat, Int.reduceNeg, Int.reduceSub, Int.reduceAdd, Int.reduceMul, Int.reduceLT, Int.reduceLE, Int.reduceEq, ↓reduceIte, not_true, not_false_eq_true, not_true_eq_false, and_self, true_and, and_true, false_and, and_false, Decidable.not_not, stv1, stv2, stv3, stv4]
  obtain ⟨M, rfl⟩ : ∃ M, NF = M + 5 := ⟨NF - 5, by omega⟩
  rw [mm_lk_s, fJ1_indexOfChar_L7]
  simp (implicitDefEqProofs := false) (maxSteps := 1000000) (disch := omega) only [e3, g0, ↓mm_lt_s, ↓cl_in, ↓cl_wi, ↓cl_has, ↓cl_isP, mL_le, lit_n, litL_n, mL_mI, mL_neg, mm_cl_s, mI_lt, mI_le, mI_eq, enc_at, enc_wr, enc_cp, mI_neg, mI_add, mI_sub, mI_mul, mI_ix, mm_ck_ok, mm_nz_ok, mm_bo_c, mm_bo_m0, mm_bo_m1, b01, Int.toNat_natCast, Int.reduceToNat, Int.reduceNeg, Int.reduceSub, Int.reduceAdd, Int.reduceMul, Int.reduceLT, Int.reduceLE, Int.reduceEq, ↓reduceIte, not_true, not_false_eq_true, not_true_eq_false, and_self, true_and, and_true, false_and, and_false, Decidable.not_not, stv1, stv2, stv3, stv4]
  rw [mm_lk_s, fJ1_indexOfChar_L7]
  simp (implicitDefEqProofs := false) (maxSteps := 1000000) (disch := omega) only [e3, g1, ↓mm_lt_s, ↓cl_in, ↓cl_wi, ↓cl_has, ↓cl_isP, mL_le, lit_n, litL_n, mL_mI, mL_neg, mm_cl_s, mI_lt, mI_le, mI_eq, enc_at, enc_wr, enc_cp, mI_neg, mI_add, mI_sub, mI_mul, mI_ix, mm_ck_ok, mm_nz_ok, mm_bo_c, mm_bo_m0, mm_bo_m1, b01, Int.toNat_natCast, Int.reduceToNat, Int.reduceNeg, Int.reduceSub, Int.reduceAdd, Int.reduceMul, Int.reduceLT, Int.reduceLE, Int.reduceEq, ↓reduceIte, not_true, not_false_eq_true, not_true_eq_false, and_self, true_and, and_true, false_and, and_false, Decidable.not_not, stv1, stv2, stv3, stv4]
  rw [mm_lk_s, fJ1_indexOfChar_L7]
  simp (implicitDefEqProofs := false) (maxSteps := 1000000) (disch := omega) only [e3, g2, ↓mm_lt_s, ↓cl_in, ↓cl_wi, ↓cl_has, ↓cl_isP, mL_le, lit_n, litL_n, mL_mI, mL_neg, mm_cl_s, mI_lt, mI_le, mI_eq, enc_at, enc_wr, enc_cp, mI_neg, mI_add, mI_sub, mI_mul, mI_ix, mm_ck_ok, mm_nz_ok, mm_bo_c, mm_bo_m0, mm_bo_m1, b01, Int.toNat_natCast, Int.reduceToNat, Int.reduceNeg, Int.reduceSub, Int.reduceAdd, Int.reduceMul, Int.reduceLT, Int.reduceLE, Int.reduceEq, ↓reduceIte, not_true, not_false_eq_true, not_true_eq_false, and_self, true_and, and_true, false_and, and_false, Decidable.not_not, stv1, stv2, stv3, stv4]
  rw [mm_lk_s, fJ1_indexOfChar_L7]
  simp (implicitDefEqProofs := false) (maxSteps := 1000000) (disch := omega) only [e3, g3, ↓mm_lt_s, ↓cl_in, ↓cl_wi, ↓cl_has, ↓cl_isP, mL_le, lit_n, litL_n, mL_mI, mL_neg, mm_cl_s, mI_lt, mI_le, mI_eq, enc_at, enc_wr, enc_cp, mI_neg, mI_add, mI_sub, mI_mul, mI_ix, mm_ck_ok, mm_nz_ok, mm_bo_c, mm_bo_m0, mm_bo_m1, b01, Int.toNat_natCast, Int.reduceToNat, Int.reduceNeg, Int.reduceSub, Int.reduceAdd, Int.reduceMul, Int.reduceLT, Int.reduceLE, Int.reduceEq, ↓reduceIte, not_true, not_false_eq_true, not_true_eq_false, and_self, true_and, and_true, false_and, and_false, Decidable.not_not, stv1, stv2, stv3, stv4]
  rw [mm_lk_s, fJ1_indexOfChar_L7]
  simp (implicitDefEqProofs := false) (maxSteps := 1000000) (disch := omega) only [e3, ↓mm_lt_s, ↓cl_in, ↓cl_wi, ↓cl_has, ↓cl_isP, mL_le, lit_n, litL_n, mL_mI, mL_neg, mm_cl_s, mI_lt, mI_le, mI_eq, enc_at, enc_wr, enc_cp, mI_neg, mI_add, mI_sub, mI_mul, mI_ix, mm_ck_ok, mm_nz_ok, mm_bo_c, mm_bo_m0, mm_bo_m1, b01, Int.toNat_natCast, Int.reduceToNat, Int.reduceNeg, Int.reduceSub, Int.reduceAdd, Int.reduceMul, Int.reduceLT, Int.reduceLE, Int.reduceEq, ↓reduceIte, not_true, not_false_eq_true, not_true_eq_false, and_self, true_and, and_true, false_and, and_false, Decidable.not_not, stv1, stv2, stv3, stv4]
  unfold lt2
  by_cases c1 : (c : Int) = 119
  · repeat (first | rw [if_pos (by omega)] | rw [if_neg (by omega)])
    simp (implicitDefEqProofs := false) (maxSteps := 1000000) (disch := omega) only [↓mm_lt_s, ↓cl_in, ↓cl_wi, ↓cl_has, ↓cl_isP, mL_le, lit_n, litL_n, mL_mI, mL_neg, mm_cl_s, mI_lt, mI_le, mI_eq, enc_at, enc_wr, enc_cp, mI_neg, mI_add, mI_sub, mI_mul, mI_ix, mm_ck_ok, mm_nz_ok, mm_bo_c, mm_bo_m0, mm_bo_m1, b01, Int.toNat_natCast, Int.reduceToNat, Int.reduceNeg, Int.reduceSub, Int.reduceAdd, Int.reduceMul, Int.reduceLT, Int.reduceLE, Int.reduceEq, ↓reduceIte, not_true, not_false_eq_true, not_true_eq_false, and_self, true_and, and_true, false_and, and_false, Decidable.not_not, stv1, stv2, stv3, stv4]
    repeat (first | rw [if_pos (by omega)] | rw [if_neg (by omega)])
  · by_cases c2 : (c : Int) = 114
    · repeat (first | rw [if_pos (by omega)] | rw [if_neg (by omega)])
      simp (implicitDefEqProofs := false) (maxSteps := 1000000) (disch := omega) only [↓mm_lt_s, ↓cl_in, ↓cl_wi, ↓cl_has, ↓cl_isP, mL_le, lit_n, litL_n, mL_mI, mL_neg, mm_cl_s, mI_lt, mI_le, mI_eq, enc_at, enc_wr, enc_cp, mI_neg, mI_add, mI_sub, mI_mul, mI_ix, mm_ck_ok, mm_nz_ok, mm_bo_c, mm_bo_m0, mm_bo_m1, b01, Int.toNat_natCast, Int.reduceToNat, Int.reduceNeg, Int.reduceSub, Int.reduceAdd, Int.reduceMul, Int.reduceLT, Int.reduceLE, Int.reduceEq, ↓reduceIte, not_true, not_false_eq_true, not_true_eq_false, and_self, true_and, and_true, false_and, and_false, Decidable.not_not, stv1, stv2, stv3, stv4]
      repeat (first | rw [if_pos (by omega)] | rw [if_neg (by omega)])
    · by_cases c3 : (c : Int) = 108
      · repeat (first | rw [if_pos (by omega)] | rw [if_neg (by omega)])
        simp (implicitDefEqProofs := false) (maxSteps := 1000000) (disch := omega) only [↓mm_lt_s, ↓cl_in, ↓cl_wi, ↓cl_has, ↓cl_isP, mL_le, lit_n, litL_n, mL_mI, mL_neg, mm_cl_s, mI_lt, mI_le, mI_eq, enc_at, enc_wr, enc_cp, mI_neg, mI_add, mI_sub, mI_mul, mI_ix, mm_ck_ok, mm_nz_ok, mm_bo_c, mm_bo_m0, mm_bo_m1, b01, Int.toNat_natCast, Int.reduceToNat, Int.reduceNeg, Int.reduceSub, Int.reduceAdd, Int.reduceMul, Int.reduceLT, Int.reduceLE, Int.reduceEq, ↓reduceIte, not_true, not_false_eq_true, not_true_eq_false, and_self, true_and, and_true, false_and, and_false, Decidable.not_not, stv1, stv2, stv3, stv4]
        repeat (first | rw [if_pos (by omega)] | rw [if_neg (by omega)])
      · by_cases c4 : (c : Int) = 115
        · repeat (first | rw [if_pos (by omega)] | rw [if_neg (by omega)])
          simp (implicitDefEqProofs := false) (maxSteps := 1000000) (disch := omega) only [↓mm_lt_s, ↓cl_in, ↓cl_wi, ↓cl_has, ↓cl_isP, mL_le, lit_n, litL_n, mL_mI, mL_neg, mm_cl_s, mI_lt, mI_le, mI_eq, enc_at, enc_wr, enc_cp, mI_neg, mI_add, mI_sub, mI_mul, mI_ix, mm_ck_ok, mm_nz_ok, mm_bo_c, mm_bo_m0, mm_bo_m1, b01, Int.toNat_natCast, Int.reduceToNat, Int.reduceNeg, Int.reduceSub, Int.reduceAdd, Int.reduceMul, Int.reduceLT, Int.reduceLE, Int.reduceEq, ↓reduceIte, not_true, not_false_eq_true, not_true_eq_false, and_self, true_and, and_true, false_and, and_false, Decidable.not_not, stv1, stv2, stv3, stv4]
          repeat (first | rw [if_pos (by omega)] | rw [if_neg (by omega)])
        · repeat (first | rw [if_pos (by omega)] | rw [if_neg (by omega)])
          simp (implicitDefEqProofs := false) (maxSteps := 1000000) (disch := omega) only [↓mm_lt_s, ↓cl_in, ↓cl_wi, ↓cl_has, ↓cl_isP, mL_le, lit_n, litL_n, mL_mI, mL_neg, mm_cl_s, mI_lt, mI_le, mI_eq, enc_at, enc_wr, enc_cp, mI_neg, mI_add, mI_sub, mI_mul, mI_ix, mm_ck_ok, mm_nz_ok, mm_bo_c, mm_bo_m0, mm_bo_m1, b01, Int.toNat_natCast, Int.reduceToNat, Int.reduceNeg, Int.reduceSub, Int.reduceAdd, Int.reduceMul, Int.reduceLT, Int.reduceLE, Int.reduceEq, ↓reduceIte, not_true, not_false_eq_true, not_true_eq_false, and_self, true_and, and_true, false_and, and_false, Decidable.not_not, stv1, stv2, stv3, stv4]
          repeat (first | rw [if_pos (by omega)] | rw [if_neg (by omega)])
theorem letX {σ τ : IM} {n pl q0 : Nat} (h : TP σ τ n pl) (hq : q0 ≤ n) (hp : fX4_peek (enc σ) = some (mI (nxB τ n q0), enc (iw σ 27 1 q0))) : fX4_readLetter 1 (enc σ) = some (mI (lt1 (nxB τ n q0)), enc (iw σ 27 1 (if lt1 (nxB τ n q0) < 0 then (q0 : Int) else (q0 : Int) + 1))) ∧ fX4_readLetter 2 (enc σ) = some (mI (lt2 (nxB τ n q0)), enc (iw σ 27 1 (if lt2 (nxB τ n q0) < 0 then (q0 : Int) else (q0 : Int) + 1))) := by
  obtain ⟨⟨a1, a2, a3, a4, a5, a6⟩, a7⟩ := id h
  have e1 : iw σ 27 1 (q0 : Int) 27 1 = (q0 : Int) := iw_eq rfl rfl
  unfold fX4_readLetter
  rw [hp]
  unfold nxB
  by_cases c : q0 < n
  · have b := a7 q0 c
    rw [if_pos c]
    obtain ⟨ch, hch⟩ := Int.eq_ofNat_of_zero_le (show 0 ≤ τ 3 q0 by omega)
    rw [hch]
    have hc : ch < 128 := by omega
    have hne : ¬ (ch : Int) = -1 := by omega
    simp (implicitDefEqProofs := false) (maxSteps := 1000000) (disch := omega) only [hne, ↓mm_lt_s, ↓cl_in, ↓cl_wi, ↓cl_has, ↓cl_isP, mL_le, lit_n, litL_n, mL_mI, mL_neg, mm_cl_s, mI_lt, mI_le, mI_eq, enc_at, enc_wr, enc_cp, mI_neg, mI_add, mI_sub, mI_mul, mI_ix, mm_ck_ok, mm_nz_ok, mm_bo_c, mm_bo_m0, mm_bo_m1, b01, Int.toNat_natCast, Int.reduceToNat, Int.reduceNeg, Int.reduceSub, Int.reduceAdd, Int.reduceMul, Int.reduceLT, Int.reduceLE, Int.reduceEq, ↓reduceIte, not_true, not_false_eq_true, not_true_eq_false, and_self, true_and, and_true, false_and, and_false, Decidable.not_not, stv1, stv2, stv3, stv4]
    rw [c16 ch (by omega), ix1 ch hc, ix2 ch hc]
    have r1 : -1 ≤ lt1 ch ∧ lt1 ch ≤ 1 := by unfold lt1; split <;> (try split) <;> omega
    have r2 : -1 ≤ lt2 ch ∧ lt2 ch ≤ 3 := by unfold lt2; split <;> (try split) <;> (try split) <;> (try split) <;> omega
    generalize lt1 (ch : Int) = x1 at *
    generalize lt2 (ch : Int) = x2 at *
    simp (implicitDefEqProofs := false) (maxSteps := 1000000) (disch := omega) only [e1, iw_iw, ↓mm_lt_s, ↓cl_in, ↓cl_wi, ↓cl_has, ↓cl_isP, mL_le, lit_n, litL_n, mL_mI, mL_neg, mm_cl_s, mI_lt, mI_le, mI_eq, enc_at, enc_wr, enc_cp, mI_neg, mI_add, mI_sub, mI_mul, mI_ix, mm_ck_ok, mm_nz_ok, mm_bo_c, mm_bo_m0, mm_bo_m1, b01, Int.toNat_natCast, Int.reduceToNat, Int.reduceNeg, Int.reduceSub, Int.reduceAdd, Int.reduceMul, Int.reduceLT, Int.reduceLE, Int.reduceEq, ↓reduceIte, not_true, not_false_eq_true, not_true_eq_false, and_self, true_and, and_true, false_and, and_false, Decidable.not_not, stv1, stv2, stv3, stv4]
    constructor
    · by_cases c2 : x1 < 0
      · repeat (first | rw [if_pos (by omega)] | rw [if_neg (by omega)])
      · repeat (first | rw [if_pos (by omega)] | rw [if_neg (by omega)])
    · by_cases c2 : x2 < 0
      · repeat (first | rw [if_pos (by omega)] | rw [if_neg (by omega)])
      · repeat (first | rw [if_pos (by omega)] | rw [if_neg (by omega)])
  · rw [if_neg c]
    simp (implicitDefEqProofs := false) (maxSteps := 1000000) (disch := omega) only [↓mm_lt_s, ↓cl_in, ↓cl_wi, ↓cl_has, ↓cl_isP, mL_le, lit_n, litL_n, mL_mI, mL_neg, mm_cl_s, mI_lt, mI_le, mI_eq, enc_at, enc_wr, enc_cp, mI_neg, mI_add, mI_sub, mI_mul, mI_ix, mm_ck_ok, mm_nz_ok, mm_bo_c, mm_bo_m0, mm_bo_m1, b01, Int.toNat_natCast, Int.reduceToNat, Int.reduceNeg, Int.reduceSub, Int.reduceAdd, Int.reduceMul, Int.reduceLT, Int.reduceLE, Int.reduceEq, ↓reduceIte, not_true, not_false_eq_true, not_true_eq_false, and_self, true_and, and_true, false_and, and_false, Decidable.not_not, stv1, stv2, stv3, stv4]
    exact ⟨rfl, rfl⟩
theorem nx_rng {σ τ : IM} {n pl q0 : Nat} (h : TP σ τ n pl) : I32 (nxB τ n q0) ∧ -1 ≤ nxB τ n q0 ∧ nxB τ n q0 ≤ 126 ∧ (nxB τ n q0 ≠ -1 → q0 < n) := by
  unfold nxB
  by_cases c : q0 < n
  · have := h.2 q0 c
    rw [if_pos c]; omega
  · rw [if_neg c]; omega
def P0 (σ τ : IM) (n f q : Nat) (σ' τ' : IM) : Prop := TP σ' τ' n q ∧ FX σ σ' ∧ FM τ τ' ∧ τ' 0 7 = τ 0 7 ∧ ∀ j, j < f → σ' 29 j = σ 29 j ∧ τ' 4 j = τ 4 j
theorem P0.to {σ τ σ' τ' : IM} {n f q q' : Nat} (h : P0 σ τ n f q σ' τ') (hq : q' ≤ n) : P0 σ τ n f q' (iw σ' 27 1 (q' : Int)) (iw τ' 0 6 (q' : Int)) :=
  ⟨h.1.to hq, h.2.1.tr FX.pl, h.2.2.1.tr FM.pl, by rw [iw_ne (by omega)]; exact h.2.2.2.1, fun j hj => by rw [iw_ne (by omega), iw_ne (by omega)]; exact h.2.2.2.2 j hj⟩
theorem P0.wx {σ τ σ' τ' : IM} {n f q c : Nat} {v : Int} (h : P0 σ τ n f q σ' τ') (hc : f ≤ c) : P0 σ τ n f q (iw σ' 29 c v) τ' :=
  ⟨h.1.cong (fun k j hk => iw_ne (by omega)) (fun _ => rfl) rfl rfl, h.2.1.tr FX.rd, h.2.2.1, h.2.2.2.1, fun j hj => by rw [iw_ne (by omega)]; exact h.2.2.2.2 j hj⟩
theorem P0.wm {σ τ σ' τ' : IM} {n f q c : Nat} {v : Int} (h : P0 σ τ n f q σ' τ') (hc : f ≤ c) : P0 σ τ n f q σ' (iw τ' 4 c v) :=
  ⟨h.1.cong (fun k j hk => rfl) (fun _ => iw_ne (by omega)) (iw_ne (by omega)) (iw_ne (by omega)), h.2.1, h.2.2.1.tr FM.rd, by rw [iw_ne (by omega)]; exact h.2.2.2.1, fun j hj => by rw [iw_ne (by omega)]; exact h.2.2.2.2 j hj⟩
def PC (σ' τ' : IM) (f k : Nat) : Prop := ∀ j, j < k → σ' 29 (f + j) = τ' 4 (f + j) ∧ tolLo j ≤ τ' 4 (f + j) ∧ τ' 4 (f + j) ≤ tolHi j
theorem PC.to {σ' τ' : IM} {f k : Nat} {v w : Int} (h : PC σ' τ' f k) : PC (iw σ' 27 1 v) (iw τ' 0 6 w) f k := fun j hj => by
  rw [iw_ne (by omega), iw_ne (by omega)]; exact h j hj
theorem PC.put {σ' τ' : IM} {f k : Nat} {r : Int} (h : PC σ' τ' f k) (h1 : tolLo k ≤ r) (h2 : r ≤ tolHi k) : PC (iw σ' 29 (f + k) r) (iw τ' 4 (f + k) r) f (k + 1) := fun j hj => by
  by_cases e : j = k
  · subst e
    rw [iw_eq rfl rfl, iw_eq rfl rfl]
    exact ⟨rfl, h1, h2⟩
  · rw [iw_ne (by omega), iw_ne (by omega)]; exact h j (by omega)
theorem PC.wm {σ' τ' : IM} {f k : Nat} {r : Int} (h : PC σ' τ' f k) : PC σ' (iw τ' 4 (f + k) r) f k := fun j hj => by
  rw [iw_ne (by omega)]; exact h j hj
theorem atB_iw {τ : IM} {n q k j : Nat} {v : Int} (hk : k ≠ 3) (h : atB τ n q) : atB (iw τ k j v) n q := by
  unfold atB at *
  rw [iw_ne (by omega)]; exact h
/-- the reference's person, cut into three -/
def gM3 (a1 x16 : Int32) (m17 : Mm) : Aa := mm_ck (a1 + 2) 30 (mm_lt (mm_wr m17 4 (a1 + 2).toNatClampNeg x16) (fun (m18 : Mm) => mm_lt (mm_wr m18 0 6 ((m18 0 6) + 1)) (fun (m19 : Mm) => mm_cl (fX7_readNumber 1 20 m19) (fun (x20 : Int32) (m21 : Mm) => mm_ck (a1 + 3) 30 (mm_lt (mm_wr m21 4 (a1 + 3).toNatClampNeg x20) (fun (m22 : Mm) => mm_ck (a1 + 3) 30 (if 0 ≤ (m22 4 (a1 + 3).toNatClampNeg) then (mm_ck (a1 + 4) 30 (mm_lt (mm_wr m22 4 (a1 + 4).toNatClampNeg 1) (fun (m23 : Mm) => mm_cl (fX7_nextByte m23) (fun (x24 : Int32) (m25 : Mm) => mm_lt (fun (m26 : Mm) => mm_bo 1 (some (1, m26))) (fun (k_255 : Mm → Aa) => if x24 = 116 then (mm_lt (mm_wr m25 0 6 ((m25 0 6) + 1)) (fun (m27 : Mm) => mm_cl (fX7_nextByte m27) (fun (x28 : Int32) (m29 : Mm) => mm_ck (a1 + 4) 30 (mm_lt (mm_wr m29 4 (a1 + 4).toNatClampNeg (x28 - 48)) (fun (m30 : Mm) => mm_ck (a1 + 4) 30 (mm_cl (fX7_in ((m30 4 (a1 + 4).toNatClampNeg).toInt64) 1 6 m30) (fun (x31 : Int32) (m32 : Mm) => if x31 = 0 then (mm_bo 0 (some (0, m32))) else (mm_lt (mm_wr m32 0 6 ((m32 0 6) + 1)) (fun (m33 : Mm) => k_255 m33))))))))) else (k_255 m25)))))) else (mm_bo 0 (some (0, m22))))))))))
def gM2 (a1 x8 : Int32) (m9 : Mm) : Aa := mm_ck (a1 + 1) 30 (mm_lt (mm_wr m9 4 (a1 + 1).toNatClampNeg x8) (fun (m10 : Mm) => mm_lt (mm_wr m10 0 6 ((m10 0 6) + 1)) (fun (m11 : Mm) => mm_cl (fX7_nextByte m11) (fun (x12 : Int32) (m13 : Mm) => mm_lt x12 (fun (x14 : Int32) => mm_lt (fun (m15 : Mm) => mm_lt (gM3 a1) (fun (k_142 : Int32 → Mm → Aa) => if x14 = 119 then (k_142 0 m15) else (if x14 = 114 then (k_142 1 m15) else (if x14 = 108 then (k_142 2 m15) else (k_142 3 m15))))) (fun (k_104 : Mm → Aa) => if x14 = 119 then (k_104 m13) else (if x14 = 114 then (k_104 m13) else (if x14 = 108 then (k_104 m13) else (if x14 = 115 then (k_104 m13) else (mm_bo 0 (some (0, m13))))))))))))
theorem gM1 (a1 : Int32) (μ : Mm) : fX7_readPerson a1 μ = mm_cl (fX7_readNumber 0 499 μ) (fun (x1 : Int32) (m2 : Mm) => mm_ck a1 30 (mm_lt (mm_wr m2 4 a1.toNatClampNeg x1) (fun (m3 : Mm) => mm_ck a1 30 (if 0 ≤ (m3 4 a1.toNatClampNeg) then (mm_cl (fX7_nextByte m3) (fun (x4 : Int32) (m5 : Mm) => mm_lt x4 (fun (x6 : Int32) => mm_lt (fun (m7 : Mm) => mm_lt (gM2 a1) (fun (k_62 : Int32 → Mm → Aa) => if x6 = 110 then (k_62 0 m7) else (k_62 1 m7))) (fun (k_44 : Mm → Aa) => if x6 = 110 then (k_44 m5) else (if x6 = 115 then (k_44 m5) else (mm_bo 0 (some (0, m5)))))))) else (mm_bo 0 (some (0, m3))))))) := rfl
/-- one person is read -/
theorem personP {σ τ : IM} {n pl : Nat} (h : TP σ τ n pl) (f : Nat) (hf : f ≤ 25) : ∃ (b : Int) (σ' τ' : IM) (q : Nat), fX4_readPerson (mI f) (enc σ) = some (mI b, enc σ') ∧ fX7_readPerson (mI f) (enc τ) = some (mI b, enc τ') ∧ P0 σ τ n f q σ' τ' ∧ ((b = 0 ∧ atB τ' n q) ∨ (b = 1 ∧ PC σ' τ' f 5)) := by
  have n0 : ((f : Int) + 0).toNat = f := by omega
  have n1 : ((f : Int) + 1).toNat = f + 1 := by omega
  have n2 : ((f : Int) + 2).toNat = f + 2 := by omega
  have n3 : ((f : Int) + 3).toNat = f + 3 := by omega
  have n4 : ((f : Int) + 4).toNat = f + 4 := by omega
  have l0 : tolLo 0 = 0 := rfl
  have l1 : tolHi 0 = 499 := rfl
  have l2 : tolLo 3 = 1 := rfl
  have l3 : tolHi 3 = 20 := rfl
  have l4 : Int32.ofNat 30 = mI 30 := rfl
  have z0 : (f : Int) + 0 = (f : Int) := by omega
  have c30 : (f : Int) ≤ 25 := by omega
  have c0f : ¬ (f : Int) < 0 := by omega
  have S0 : P0 σ τ n f pl σ τ := ⟨h, FX.rfl', FM.rfl', rfl, fun _ _ => ⟨rfl, rfl⟩⟩
  have C0 : PC σ τ f 0 := fun j hj => by omega
  obtain ⟨r0, q0, a1, a2, a3, a4, a5⟩ := numP h 0 499 (by omega) (by omega) (by omega) (by omega)
  have rI : I32 r0 := by rcases a5 with a5 | a5 <;> omega
  have hX : fX4_readPerson (mI f) (enc σ) = fX4_readPerson (mI f) (enc σ) := rfl
  have hM := gM1 (mI f) (enc τ)
  conv at hX => rhs; unfold fX4_readPerson
  rw [l4] at hX
  simp (implicitDefEqProofs := false) (maxSteps := 1000000) (disch := omega) only [n0, n1, n2, n3, n4, z0, l0, l1, c30, c0f, ↓mm_lt_s, ↓cl_in, ↓cl_wi, ↓cl_has, ↓cl_isP, mL_le, lit_n, litL_n, mL_mI, mL_neg, mm_cl_s, mI_lt, mI_le, mI_eq, enc_at, enc_wr, enc_cp, mI_neg, mI_add, mI_sub, mI_mul, mI_ix, mm_ck_ok, mm_nz_ok, mm_bo_c, mm_bo_m0, mm_bo_m1, b01, Int.toNat_natCast, Int.reduceToNat, Int.reduceNeg, Int.reduceSub, Int.reduceAdd, Int.reduceMul, Int.reduceLT, Int.reduceLE, Int.reduceEq, ↓reduceIte, not_true, not_false_eq_true, not_true_eq_false, and_self, true_and, and_true, false_and, and_false, Decidable.not_not, stv1, stv2, stv3, stv4] at hX
  rw [a3] at hX
  simp (implicitDefEqProofs := false) (maxSteps := 1000000) (disch := omega) only [↓mm_lt_s, ↓cl_in, ↓cl_wi, ↓cl_has, ↓cl_isP, mL_le, lit_n, litL_n, mL_mI, mL_neg, mm_cl_s, mI_lt, mI_le, mI_eq, enc_at, enc_wr, enc_cp, mI_neg, mI_add, mI_sub, mI_mul, mI_ix, mm_ck_ok, mm_nz_ok, mm_bo_c, mm_bo_m0, mm_bo_m1, b01, Int.toNat_natCast, Int.reduceToNat, Int.reduceNeg, Int.reduceSub, Int.reduceAdd, Int.reduceMul, Int.reduceLT, Int.reduceLE, Int.reduceEq, ↓reduceIte, not_true, not_false_eq_true, not_true_eq_false, and_self, true_and, and_true, false_and, and_false, Decidable.not_not, stv1, stv2, stv3, stv4] at hM
  rw [a4] at hM
  have e1 : iw (iw σ 27 1 (q0 : Int)) 29 f r0 29 f = r0 := iw_eq rfl rfl
  have e2 : iw (iw τ 0 6 (q0 : Int)) 4 f r0 4 f = r0 := iw_eq rfl rfl
  have S1 : P0 σ τ n f q0 (iw (iw σ 27 1 (q0 : Int)) 29 f r0) (iw (iw τ 0 6 (q0 : Int)) 4 f r0) := ((S0.to a2).wx (Nat.le_refl _)).wm (Nat.le_refl _)
  by_cases c0 : 0 ≤ r0
  · have hr : 0 ≤ r0 ∧ r0 ≤ 499 := by rcases a5 with a5 | a5 <;> omega
    have C1 : PC (iw (iw σ 27 1 (q0 : Int)) 29 f r0) (iw (iw τ 0 6 (q0 : Int)) 4 f r0) f 1 := (C0.to (v := q0) (w := q0)).put (k := 0) (by rw [l0]; omega) (by rw [l1]; omega)
    simp (implicitDefEqProofs := false) (maxSteps := 1000000) (disch := omega) only [n0, n1, n2, n3, n4, z0, e1, c0, ↓mm_lt_s, ↓cl_in, ↓cl_wi, ↓cl_has, ↓cl_isP, mL_le, lit_n, litL_n, mL_mI, mL_neg, mm_cl_s, mI_lt, mI_le, mI_eq, enc_at, enc_wr, enc_cp, mI_neg, mI_add, mI_sub, mI_mul, mI_ix, mm_ck_ok, mm_nz_ok, mm_bo_c, mm_bo_m0, mm_bo_m1, b01, Int.toNat_natCast, Int.reduceToNat, Int.reduceNeg, Int.reduceSub, Int.reduceAdd, Int.reduceMul, Int.reduceLT, Int.reduceLE, Int.reduceEq, ↓reduceIte, not_true, not_false_eq_true, not_true_eq_false, and_self, true_and, and_true, false_and, and_false, Decidable.not_not, stv1, stv2, stv3, stv4] at hX
    simp (implicitDefEqProofs := false) (maxSteps := 1000000) (disch := omega) only [e2, c0, ↓mm_lt_s, ↓cl_in, ↓cl_wi, ↓cl_has, ↓cl_isP, mL_le, lit_n, litL_n, mL_mI, mL_neg, mm_cl_s, mI_lt, mI_le, mI_eq, enc_at, enc_wr, enc_cp, mI_neg, mI_add, mI_sub, mI_mul, mI_ix, mm_ck_ok, mm_nz_ok, mm_bo_c, mm_bo_m0, mm_bo_m1, b01, Int.toNat_natCast, Int.reduceToNat, Int.reduceNeg, Int.reduceSub, Int.reduceAdd, Int.reduceMul, Int.reduceLT, Int.reduceLE, Int.reduceEq, ↓reduceIte, not_true, not_false_eq_true, not_true_eq_false, and_self, true_and, and_true, false_and, and_false, Decidable.not_not, stv1, stv2, stv3, stv4] at hM
    generalize iw (iw σ 27 1 (q0 : Int)) 29 f r0 = σ1 at *
    generalize iw (iw τ 0 6 (q0 : Int)) 4 f r0 = τ1 at *
    clear a3 a4 a5 e1 e2 S0 C0
    obtain ⟨q1, p1, p2, p3, p4, p5, p6⟩ := peekP S1.1
    have L := (letX S1.1 p2 p4).1
    have N1 := nx_rng (q0 := q1) S1.1
    generalize nxB τ1 n q1 = b1 at *
    have x1 : -1 ≤ lt1 b1 ∧ lt1 b1 ≤ 1 ∧ (lt1 b1 < 0 ∨ b1 ≠ -1) := by unfold lt1; split <;> (try split) <;> omega
    rw [L] at hX
    rw [p5] at hM
    by_cases c1 : lt1 b1 < 0
    · have d1 : ¬ b1 = 110 ∧ ¬ b1 = 115 := by
        unfold lt1 at c1
        constructor <;> intro e <;> subst e <;> exact absurd c1 (by decide)
      have c1' : ¬ 0 ≤ lt1 b1 := by omega
      rw [if_pos c1] at hX
      have e1 : iw (iw σ1 27 1 (q1 : Int)) 29 (f + 1) (lt1 b1) 29 (f + 1) = lt1 b1 := iw_eq rfl rfl
      simp (implicitDefEqProofs := false) (maxSteps := 1000000) (disch := omega) only [n0, n1, n2, n3, n4, z0, e1, c1', ↓mm_lt_s, ↓cl_in, ↓cl_wi, ↓cl_has, ↓cl_isP, mL_le, lit_n, litL_n, mL_mI, mL_neg, mm_cl_s, mI_lt, mI_le, mI_eq, enc_at, enc_wr, enc_cp, mI_neg, mI_add, mI_sub, mI_mul, mI_ix, mm_ck_ok, mm_nz_ok, mm_bo_c, mm_bo_m0, mm_bo_m1, b01, Int.toNat_natCast, Int.reduceToNat, Int.reduceNeg, Int.reduceSub, Int.reduceAdd, Int.reduceMul, Int.reduceLT, Int.reduceLE, Int.reduceEq, ↓reduceIte, not_true, not_false_eq_true, not_true_eq_false, and_self, true_and, and_true, false_and, and_false, Decidable.not_not, stv1, stv2, stv3, stv4] at hX
      simp (implicitDefEqProofs := false) (maxSteps := 1000000) (disch := omega) only [d1.1, d1.2, ↓mm_lt_s, ↓cl_in, ↓cl_wi, ↓cl_has, ↓cl_isP, mL_le, lit_n, litL_n, mL_mI, mL_neg, mm_cl_s, mI_lt, mI_le, mI_eq, enc_at, enc_wr, enc_cp, mI_neg, mI_add, mI_sub, mI_mul, mI_ix, mm_ck_ok, mm_nz_ok, mm_bo_c, mm_bo_m0, mm_bo_m1, b01, Int.toNat_natCast, Int.reduceToNat, Int.reduceNeg, Int.reduceSub, Int.reduceAdd, Int.reduceMul, Int.reduceLT, Int.reduceLE, Int.reduceEq, ↓reduceIte, not_true, not_false_eq_true, not_true_eq_false, and_self, true_and, and_true, false_and, and_false, Decidable.not_not, stv1, stv2, stv3, stv4] at hM
      exact ⟨0, _, _, q1, hX, hM, (S1.to p2).wx (by omega), Or.inl ⟨rfl, atB_iw (by omega) p3⟩⟩
    · have hq1 : q1 < n := N1.2.2.2 (by omega)
      have hM1 : fX7_readPerson (mI f) (enc τ) = gM2 (mI f) (mI (lt1 b1)) (enc (iw τ1 0 6 (q1 : Int))) := by
        rw [hM]
        unfold lt1 at c1 ⊢
        by_cases d1 : b1 = 110
        · simp (implicitDefEqProofs := false) (maxSteps := 1000000) (disch := omega) only [d1, ↓mm_lt_s, ↓cl_in, ↓cl_wi, ↓cl_has, ↓cl_isP, mL_le, lit_n, litL_n, mL_mI, mL_neg, mm_cl_s, mI_lt, mI_le, mI_eq, enc_at, enc_wr, enc_cp, mI_neg, mI_add, mI_sub, mI_mul, mI_ix, mm_ck_ok, mm_nz_ok, mm_bo_c, mm_bo_m0, mm_bo_m1, b01, Int.toNat_natCast, Int.reduceToNat, Int.reduceNeg, Int.reduceSub, Int.reduceAdd, Int.reduceMul, Int.reduceLT, Int.reduceLE, Int.reduceEq, ↓reduceIte, not_true, not_false_eq_true, not_true_eq_false, and_self, true_and, and_true, false_and, and_false, Decidable.not_not, stv1, stv2, stv3, stv4]
        · by_cases d2 : b1 = 115
          · simp (implicitDefEqProofs := false) (maxSteps := 1000000) (disch := omega) only [d2, ↓mm_lt_s, ↓cl_in, ↓cl_wi, ↓cl_has, ↓cl_isP, mL_le, lit_n, litL_n, mL_mI, mL_neg, mm_cl_s, mI_lt, mI_le, mI_eq, enc_at, enc_wr, enc_cp, mI_neg, mI_add, mI_sub, mI_mul, mI_ix, mm_ck_ok, mm_nz_ok, mm_bo_c, mm_bo_m0, mm_bo_m1, b01, Int.toNat_natCast, Int.reduceToNat, Int.reduceNeg, Int.reduceSub, Int.reduceAdd, Int.reduceMul, Int.reduceLT, Int.reduceLE, Int.reduceEq, ↓reduceIte, not_true, not_false_eq_true, not_true_eq_false, and_self, true_and, and_true, false_and, and_false, Decidable.not_not, stv1, stv2, stv3, stv4]
          · rw [if_neg d1, if_neg d2] at c1; omega
      clear hM
      unfold gM2 at hM1
      rw [if_neg c1] at hX
      have c1' : 0 ≤ lt1 b1 := by omega
      have t1 : tolLo 1 = 0 := rfl
      have t2 : tolHi 1 = 1 := rfl
      have e1 : iw (iw σ1 27 1 ((q1 : Int) + 1)) 29 (f + 1) (lt1 b1) 29 (f + 1) = lt1 b1 := iw_eq rfl rfl
      have e2 : iw (iw τ1 0 6 (q1 : Int)) 4 (f + 1) (lt1 b1) 0 6 = (q1 : Int) := by rw [iw_ne (by omega), iw_eq rfl rfl]
      have e3 : iw (iw (iw τ1 0 6 (q1 : Int)) 4 (f + 1) (lt1 b1)) 0 6 ((q1 : Int) + 1) = iw (iw τ1 0 6 ((q1 : Int) + 1)) 4 (f + 1) (lt1 b1) := by rw [iw_sw (by omega), iw_iw]
      have S2 : P0 σ τ n f (q1 + 1) (iw (iw σ1 27 1 ((q1 : Int) + 1)) 29 (f + 1) (lt1 b1)) (iw (iw τ1 0 6 ((q1 : Int) + 1)) 4 (f + 1) (lt1 b1)) := ((S1.to (q' := q1 + 1) (by omega)).wx (by omega)).wm (by omega)
      have C2 : PC (iw (iw σ1 27 1 ((q1 : Int) + 1)) 29 (f + 1) (lt1 b1)) (iw (iw τ1 0 6 ((q1 : Int) + 1)) 4 (f + 1) (lt1 b1)) f 2 := C1.to.put (by omega) (by omega)
      simp (implicitDefEqProofs := false) (maxSteps := 1000000) (disch := omega) only [n0, n1, n2, n3, n4, z0, e1, c1', ↓mm_lt_s, ↓cl_in, ↓cl_wi, ↓cl_has, ↓cl_isP, mL_le, lit_n, litL_n, mL_mI, mL_neg, mm_cl_s, mI_lt, mI_le, mI_eq, enc_at, enc_wr, enc_cp, mI_neg, mI_add, mI_sub, mI_mul, mI_ix, mm_ck_ok, mm_nz_ok, mm_bo_c, mm_bo_m0, mm_bo_m1, b01, Int.toNat_natCast, Int.reduceToNat, Int.reduceNeg, Int.reduceSub, Int.reduceAdd, Int.reduceMul, Int.reduceLT, Int.reduceLE, Int.reduceEq, ↓reduceIte, not_true, not_false_eq_true, not_true_eq_false, and_self, true_and, and_true, false_and, and_false, Decidable.not_not, stv1, stv2, stv3, stv4] at hX
      simp (implicitDefEqProofs := false) (maxSteps := 1000000) (disch := omega) only [n1, e2, e3, ↓mm_lt_s, ↓cl_in, ↓cl_wi, ↓cl_has, ↓cl_isP, mL_le, lit_n, litL_n, mL_mI, mL_neg, mm_cl_s, mI_lt, mI_le, mI_eq, enc_at, enc_wr, enc_cp, mI_neg, mI_add, mI_sub, mI_mul, mI_ix, mm_ck_ok, mm_nz_ok, mm_bo_c, mm_bo_m0, mm_bo_m1, b01, Int.toNat_natCast, Int.reduceToNat, Int.reduceNeg, Int.reduceSub, Int.reduceAdd, Int.reduceMul, Int.reduceLT, Int.reduceLE, Int.reduceEq, ↓reduceIte, not_true, not_false_eq_true, not_true_eq_false, and_self, true_and, and_true, false_and, and_false, Decidable.not_not, stv1, stv2, stv3, stv4] at hM1
      generalize iw (iw σ1 27 1 ((q1 : Int) + 1)) 29 (f + 1) (lt1 b1) = σ2 at *
      generalize iw (iw τ1 0 6 ((q1 : Int) + 1)) 4 (f + 1) (lt1 b1) = τ2 at *
      clear e1 e2 e3 C1 S1 L p4 p5
      obtain ⟨q2, u1, u2, u3, u4, u5, u6⟩ := peekP S2.1
      have L := (letX S2.1 u2 u4).2
      have N2 := nx_rng (q0 := q2) S2.1
      generalize nxB τ2 n q2 = b2 at *
      have x2 : -1 ≤ lt2 b2 ∧ lt2 b2 ≤ 3 ∧ (lt2 b2 < 0 ∨ b2 ≠ -1) := by unfold lt2; split <;> (try split) <;> (try split) <;> (try split) <;> omega
      rw [L] at hX
      rw [u5] at hM1
      by_cases c2 : lt2 b2 < 0
      · have d1 : ¬ b2 = 119 ∧ ¬ b2 = 114 ∧ ¬ b2 = 108 ∧ ¬ b2 = 115 := by
          unfold lt2 at c2
          refine ⟨?_, ?_, ?_, ?_⟩ <;> intro e <;> subst e <;> exact absurd c2 (by decide)
        have c2' : ¬ 0 ≤ lt2 b2 := by omega
        rw [if_pos c2] at hX
        have e1 : iw (iw σ2 27 1 (q2 : Int)) 29 (f + 2) (lt2 b2) 29 (f + 2) = lt2 b2 := iw_eq rfl rfl
        simp (implicitDefEqProofs := false) (maxSteps := 1000000) (disch := omega) only [n0, n1, n2, n3, n4, z0, e1, c2', ↓mm_lt_s, ↓cl_in, ↓cl_wi, ↓cl_has, ↓cl_isP, mL_le, lit_n, litL_n, mL_mI, mL_neg, mm_cl_s, mI_lt, mI_le, mI_eq, enc_at, enc_wr, enc_cp, mI_neg, mI_add, mI_sub, mI_mul, mI_ix, mm_ck_ok, mm_nz_ok, mm_bo_c, mm_bo_m0, mm_bo_m1, b01, Int.toNat_natCast, Int.reduceToNat, Int.reduceNeg, Int.reduceSub, Int.reduceAdd, Int.reduceMul, Int.reduceLT, Int.reduceLE, Int.reduceEq, ↓reduceIte, not_true, not_false_eq_true, not_true_eq_false, and_self, true_and, and_true, false_and, and_false, Decidable.not_not, stv1, stv2, stv3, stv4] at hX
        simp (implicitDefEqProofs := false) (maxSteps := 1000000) (disch := omega) only [d1.1, d1.2.1, d1.2.2.1, d1.2.2.2, ↓mm_lt_s, ↓cl_in, ↓cl_wi, ↓cl_has, ↓cl_isP, mL_le, lit_n, litL_n, mL_mI, mL_neg, mm_cl_s, mI_lt, mI_le, mI_eq, enc_at, enc_wr, enc_cp, mI_neg, mI_add, mI_sub, mI_mul, mI_ix, mm_ck_ok, mm_nz_ok, mm_bo_c, mm_bo_m0, mm_bo_m1, b01, Int.toNat_natCast, Int.reduceToNat, Int.reduceNeg, Int.reduceSub, Int.reduceAdd, Int.reduceMul, Int.reduceLT, Int.reduceLE, Int.reduceEq, ↓reduceIte, not_true, not_false_eq_true, not_true_eq_false, and_self, true_and, and_true, false_and, and_false, Decidable.not_not, stv1, stv2, stv3, stv4] at hM1
        exact ⟨0, _, _, q2, hX, hM1, (S2.to u2).wx (by omega), Or.inl ⟨rfl, atB_iw (by omega) u3⟩⟩
      · have hq2 : q2 < n := N2.2.2.2 (by omega)
        have hM2 : fX7_readPerson (mI f) (enc τ) = gM3 (mI f) (mI (lt2 b2)) (enc (iw τ2 0 6 (q2 : Int))) := by
          rw [hM1]
          unfold lt2 at c2 ⊢
          by_cases d1 : b2 = 119
          · simp (implicitDefEqProofs := false) (maxSteps := 1000000) (disch := omega) only [d1, ↓mm_lt_s, ↓cl_in, ↓cl_wi, ↓cl_has, ↓cl_isP, mL_le, lit_n, litL_n, mL_mI, mL_neg, mm_cl_s, mI_lt, mI_le, mI_eq, enc_at, enc_wr, enc_cp, mI_neg, mI_add, mI_sub, mI_mul, mI_ix, mm_ck_ok, mm_nz_ok, mm_bo_c, mm_bo_m0, mm_bo_m1, b01, Int.toNat_natCast, Int.reduceToNat, Int.reduceNeg, Int.reduceSub, Int.reduceAdd, Int.reduceMul, Int.reduceLT, Int.reduceLE, Int.reduceEq, ↓reduceIte, not_true, not_false_eq_true, not_true_eq_false, and_self, true_and, and_true, false_and, and_false, Decidable.not_not, stv1, stv2, stv3, stv4]
          · by_cases d2 : b2 = 114
            · simp (implicitDefEqProofs := false) (maxSteps := 1000000) (disch := omega) only [d2, ↓mm_lt_s, ↓cl_in, ↓cl_wi, ↓cl_has, ↓cl_isP, mL_le, lit_n, litL_n, mL_mI, mL_neg, mm_cl_s, mI_lt, mI_le, mI_eq, enc_at, enc_wr, enc_cp, mI_neg, mI_add, mI_sub, mI_mul, mI_ix, mm_ck_ok, mm_nz_ok, mm_bo_c, mm_bo_m0, mm_bo_m1, b01, Int.toNat_natCast, Int.reduceToNat, Int.reduceNeg, Int.reduceSub, Int.reduceAdd, Int.reduceMul, Int.reduceLT, Int.reduceLE, Int.reduceEq, ↓reduceIte, not_true, not_false_eq_true, not_true_eq_false, and_self, true_and, and_true, false_and, and_false, Decidable.not_not, stv1, stv2, stv3, stv4]
            · by_cases d3 : b2 = 108
              · simp (implicitDefEqProofs := false) (maxSteps := 1000000) (disch := omega) only [d3, ↓mm_lt_s, ↓cl_in, ↓cl_wi, ↓cl_has, ↓cl_isP, mL_le, lit_n, litL_n, mL_mI, mL_neg, mm_cl_s, mI_lt, mI_le, mI_eq, enc_at, enc_wr, enc_cp, mI_neg, mI_add, mI_sub, mI_mul, mI_ix, mm_ck_ok, mm_nz_ok, mm_bo_c, mm_bo_m0, mm_bo_m1, b01, Int.toNat_natCast, Int.reduceToNat, Int.reduceNeg, Int.reduceSub, Int.reduceAdd, Int.reduceMul, Int.reduceLT, Int.reduceLE, Int.reduceEq, ↓reduceIte, not_true, not_false_eq_true, not_true_eq_false, and_self, true_and, and_true, false_and, and_false, Decidable.not_not, stv1, stv2, stv3, stv4]
              · by_cases d4 : b2 = 115
                · simp (implicitDefEqProofs := false) (maxSteps := 1000000) (disch := omega) only [d4, ↓mm_lt_s, ↓cl_in, ↓cl_wi, ↓cl_has, ↓cl_isP, mL_le, lit_n, litL_n, mL_mI, mL_neg, mm_cl_s, mI_lt, mI_le, mI_eq, enc_at, enc_wr, enc_cp, mI_neg, mI_add, mI_sub, mI_mul, mI_ix, mm_ck_ok, mm_nz_ok, mm_bo_c, mm_bo_m0, mm_bo_m1, b01, Int.toNat_natCast, Int.reduceToNat, Int.reduceNeg, Int.reduceSub, Int.reduceAdd, Int.reduceMul, Int.reduceLT, Int.reduceLE, Int.reduceEq, ↓reduceIte, not_true, not_false_eq_true, not_true_eq_false, and_self, true_and, and_true, false_and, and_false, Decidable.not_not, stv1, stv2, stv3, stv4]
                · rw [if_neg d1, if_neg d2, if_neg d3, if_neg d4] at c2; omega
        clear hM1
        unfold gM3 at hM2
        rw [if_neg c2] at hX
        have c2' : 0 ≤ lt2 b2 := by omega
        have t3 : tolLo 2 = 0 := rfl
        have t4 : tolHi 2 = 3 := rfl
        have e1 : iw (iw σ2 27 1 ((q2 : Int) + 1)) 29 (f + 2) (lt2 b2) 29 (f + 2) = lt2 b2 := iw_eq rfl rfl
        have e2 : iw (iw τ2 0 6 (q2 : Int)) 4 (f + 2) (lt2 b2) 0 6 = (q2 : Int) := by rw [iw_ne (by omega), iw_eq rfl rfl]
        have e3 : iw (iw (iw τ2 0 6 (q2 : Int)) 4 (f + 2) (lt2 b2)) 0 6 ((q2 : Int) + 1) = iw (iw τ2 0 6 ((q2 : Int) + 1)) 4 (f + 2) (lt2 b2) := by rw [iw_sw (by omega), iw_iw]
        have S3 : P0 σ τ n f (q2 + 1) (iw (iw σ2 27 1 ((q2 : Int) + 1)) 29 (f + 2) (lt2 b2)) (iw (iw τ2 0 6 ((q2 : Int) + 1)) 4 (f + 2) (lt2 b2)) := ((S2.to (q' := q2 + 1) (by omega)).wx (by omega)).wm (by omega)
        have C3 : PC (iw (iw σ2 27 1 ((q2 : Int) + 1)) 29 (f + 2) (lt2 b2)) (iw (iw τ2 0 6 ((q2 : Int) + 1)) 4 (f + 2) (lt2 b2)) f 3 := C2.to.put (by omega) (by omega)
        simp (implicitDefEqProofs := false) (maxSteps := 1000000) (disch := omega) only [n0, n1, n2, n3, n4, z0, e1, c2', l2, l3, ↓mm_lt_s, ↓cl_in, ↓cl_wi, ↓cl_has, ↓cl_isP, mL_le, lit_n, litL_n, mL_mI, mL_neg, mm_cl_s, mI_lt, mI_le, mI_eq, enc_at, enc_wr, enc_cp, mI_neg, mI_add, mI_sub, mI_mul, mI_ix, mm_ck_ok, mm_nz_ok, mm_bo_c, mm_bo_m0, mm_bo_m1, b01, Int.toNat_natCast, Int.reduceToNat, Int.reduceNeg, Int.reduceSub, Int.reduceAdd, Int.reduceMul, Int.reduceLT, Int.reduceLE, Int.reduceEq, ↓reduceIte, not_true, not_false_eq_true, not_true_eq_false, and_self, true_and, and_true, false_and, and_false, Decidable.not_not, stv1, stv2, stv3, stv4] at hX
        simp (implicitDefEqProofs := false) (maxSteps := 1000000) (disch := omega) only [n2, e2, e3, ↓mm_lt_s, ↓cl_in, ↓cl_wi, ↓cl_has, ↓cl_isP, mL_le, lit_n, litL_n, mL_mI, mL_neg, mm_cl_s, mI_lt, mI_le, mI_eq, enc_at, enc_wr, enc_cp, mI_neg, mI_add, mI_sub, mI_mul, mI_ix, mm_ck_ok, mm_nz_ok, mm_bo_c, mm_bo_m0, mm_bo_m1, b01, Int.toNat_natCast, Int.reduceToNat, Int.reduceNeg, Int.reduceSub, Int.reduceAdd, Int.reduceMul, Int.reduceLT, Int.reduceLE, Int.reduceEq, ↓reduceIte, not_true, not_false_eq_true, not_true_eq_false, and_self, true_and, and_true, false_and, and_false, Decidable.not_not, stv1, stv2, stv3, stv4] at hM2
        generalize iw (iw σ2 27 1 ((q2 : Int) + 1)) 29 (f + 2) (lt2 b2) = σ3 at *
        generalize iw (iw τ2 0 6 ((q2 : Int) + 1)) 4 (f + 2) (lt2 b2) = τ3 at *
        clear e1 e2 e3 C2 S2 L u4 u5
        obtain ⟨r3, q3, a1, a2, a3, a4, a5⟩ := numP S3.1 1 20 (by omega) (by omega) (by omega) (by omega)
        have rI3 : I32 r3 := by rcases a5 with a5 | a5 <;> omega
        rw [a3] at hX
        rw [a4] at hM2
        have e1 : iw (iw σ3 27 1 (q3 : Int)) 29 (f + 3) r3 29 (f + 3) = r3 := iw_eq rfl rfl
        have e2 : iw (iw τ3 0 6 (q3 : Int)) 4 (f + 3) r3 4 (f + 3) = r3 := iw_eq rfl rfl
        have S4 : P0 σ τ n f q3 (iw (iw σ3 27 1 (q3 : Int)) 29 (f + 3) r3) (iw (iw τ3 0 6 (q3 : Int)) 4 (f + 3) r3) := ((S3.to a2).wx (by omega)).wm (by omega)
        by_cases c3 : 0 ≤ r3
        · have hr : 1 ≤ r3 ∧ r3 ≤ 20 := by rcases a5 with a5 | a5 <;> omega
          have C4 : PC (iw (iw σ3 27 1 (q3 : Int)) 29 (f + 3) r3) (iw (iw τ3 0 6 (q3 : Int)) 4 (f + 3) r3) f 4 := C3.to.put (by omega) (by omega)
          simp (implicitDefEqProofs := false) (maxSteps := 1000000) (disch := omega) only [n3, n4, e1, c3, ↓mm_lt_s, ↓cl_in, ↓cl_wi, ↓cl_has, ↓cl_isP, mL_le, lit_n, litL_n, mL_mI, mL_neg, mm_cl_s, mI_lt, mI_le, mI_eq, enc_at, enc_wr, enc_cp, mI_neg, mI_add, mI_sub, mI_mul, mI_ix, mm_ck_ok, mm_nz_ok, mm_bo_c, mm_bo_m0, mm_bo_m1, b01, Int.toNat_natCast, Int.reduceToNat, Int.reduceNeg, Int.reduceSub, Int.reduceAdd, Int.reduceMul, Int.reduceLT, Int.reduceLE, Int.reduceEq, ↓reduceIte, not_true, not_false_eq_true, not_true_eq_false, and_self, true_and, and_true, false_and, and_false, Decidable.not_not, stv1, stv2, stv3, stv4] at hX
          simp (implicitDefEqProofs := false) (maxSteps := 1000000) (disch := omega) only [n3, n4, e2, c3, ↓mm_lt_s, ↓cl_in, ↓cl_wi, ↓cl_has, ↓cl_isP, mL_le, lit_n, litL_n, mL_mI, mL_neg, mm_cl_s, mI_lt, mI_le, mI_eq, enc_at, enc_wr, enc_cp, mI_neg, mI_add, mI_sub, mI_mul, mI_ix, mm_ck_ok, mm_nz_ok, mm_bo_c, mm_bo_m0, mm_bo_m1, b01, Int.toNat_natCast, Int.reduceToNat, Int.reduceNeg, Int.reduceSub, Int.reduceAdd, Int.reduceMul, Int.reduceLT, Int.reduceLE, Int.reduceEq, ↓reduceIte, not_true, not_false_eq_true, not_true_eq_false, and_self, true_and, and_true, false_and, and_false, Decidable.not_not, stv1, stv2, stv3, stv4] at hM2
          generalize iw (iw σ3 27 1 (q3 : Int)) 29 (f + 3) r3 = σ4 at *
          generalize iw (iw τ3 0 6 (q3 : Int)) 4 (f + 3) r3 = τ4 at *
          clear e1 e2 C3 S3 a3 a4 a5
          have m1 : tolLo 4 = 1 := rfl
          have m2 : tolHi 4 = 6 := rfl
          have A1 : P0 σ τ n f q3 σ4 (iw τ4 4 (f + 4) 1) := S4.wm (by omega)
          obtain ⟨q4, v1, v2, v3, v4, v5, v6⟩ := peekP A1.1
          have N4 := nx_rng (q0 := q4) A1.1
          have A2 := A1.to v2
          generalize nxB (iw τ4 4 (f + 4) 1) n q4 = b4 at *
          unfold fX4_readTrips at hX
          rw [v4] at hX
          rw [v5] at hM2
          by_cases c4 : b4 = 116
          · have hq4 : q4 < n := N4.2.2.2 (by omega)
            have A3 := A1.to (q' := q4 + 1) (by omega)
            have e1 : iw σ4 27 1 (q4 : Int) 27 1 = (q4 : Int) := iw_eq rfl rfl
            have e2 : iw (iw τ4 4 (f + 4) 1) 0 6 (q4 : Int) 0 6 = (q4 : Int) := iw_eq rfl rfl
            simp (implicitDefEqProofs := false) (maxSteps := 1000000) (disch := omega) only [c4, e1, cast_s, iw_iw, ↓mm_lt_s, ↓cl_in, ↓cl_wi, ↓cl_has, ↓cl_isP, mL_le, lit_n, litL_n, mL_mI, mL_neg, mm_cl_s, mI_lt, mI_le, mI_eq, enc_at, enc_wr, enc_cp, mI_neg, mI_add, mI_sub, mI_mul, mI_ix, mm_ck_ok, mm_nz_ok, mm_bo_c, mm_bo_m0, mm_bo_m1, b01, Int.toNat_natCast, Int.reduceToNat, Int.reduceNeg, Int.reduceSub, Int.reduceAdd, Int.reduceMul, Int.reduceLT, Int.reduceLE, Int.reduceEq, ↓reduceIte, not_true, not_false_eq_true, not_true_eq_false, and_self, true_and, and_true, false_and, and_false, Decidable.not_not, stv1, stv2, stv3, stv4] at hX
            simp (implicitDefEqProofs := false) (maxSteps := 1000000) (disch := omega) only [c4, e2, cast_s, iw_iw, ↓mm_lt_s, ↓cl_in, ↓cl_wi, ↓cl_has, ↓cl_isP, mL_le, lit_n, litL_n, mL_mI, mL_neg, mm_cl_s, mI_lt, mI_le, mI_eq, enc_at, enc_wr, enc_cp, mI_neg, mI_add, mI_sub, mI_mul, mI_ix, mm_ck_ok, mm_nz_ok, mm_bo_c, mm_bo_m0, mm_bo_m1, b01, Int.toNat_natCast, Int.reduceToNat, Int.reduceNeg, Int.reduceSub, Int.reduceAdd, Int.reduceMul, Int.reduceLT, Int.reduceLE, Int.reduceEq, ↓reduceIte, not_true, not_false_eq_true, not_true_eq_false, and_self, true_and, and_true, false_and, and_false, Decidable.not_not, stv1, stv2, stv3, stv4] at hM2
            obtain ⟨q5, w1, w2, w3, w4, w5, w6⟩ := peekP A3.1
            have N5 := nx_rng (q0 := q5) A3.1
            have A4 := A1.to w2
            have w3' : atB (iw (iw τ4 4 (f + 4) 1) 0 6 (q5 : Int)) n q5 := by
              unfold atB at w3 ⊢
              rw [iw_ne (by omega)] at w3 ⊢
              exact w3
            rw [iw_iw] at w4 w5
            generalize nxB (iw (iw τ4 4 (f + 4) 1) 0 6 ((q4 + 1 : Nat) : Int)) n q5 = b5 at *
            rw [w4] at hX
            rw [w5] at hM2
            have e3 : iw σ4 27 1 (q5 : Int) 27 1 = (q5 : Int) := iw_eq rfl rfl
            have e4 : iw (iw (iw τ4 4 (f + 4) 1) 0 6 (q5 : Int)) 4 (f + 4) (b5 - 48) 4 (f + 4) = b5 - 48 := iw_eq rfl rfl
            have e5 : iw (iw (iw τ4 4 (f + 4) 1) 0 6 (q5 : Int)) 4 (f + 4) (b5 - 48) 0 6 = (q5 : Int) := by rw [iw_ne (by omega), iw_eq rfl rfl]
            by_cases c5 : 1 ≤ b5 - 48 ∧ b5 - 48 ≤ 6
            · have hq5 : q5 < n := N5.2.2.2 (by omega)
              have e6 : iw (iw σ4 27 1 ((q5 + 1 : Nat) : Int)) 29 (f + 4) (b5 - 48) 29 (f + 4) = b5 - 48 := iw_eq rfl rfl
              have f1 : ¬ b5 - 48 < 1 := by omega
              have f2 : ¬ b5 - 48 ≤ 0 := by omega
              have A5 := ((A4.wm (c := f + 4) (v := b5 - 48) (by omega)).to (q' := q5 + 1) (by omega)).wx (c := f + 4) (v := b5 - 48) (by omega)
              rw [iw_iw] at A5
              simp (implicitDefEqProofs := false) (maxSteps := 1000000) (disch := omega) only [m1, m2, e3, n4, e6, f1, f2, c5.2, cast_s, iw_iw, ↓mm_lt_s, ↓cl_in, ↓cl_wi, ↓cl_has, ↓cl_isP, mL_le, lit_n, litL_n, mL_mI, mL_neg, mm_cl_s, mI_lt, mI_le, mI_eq, enc_at, enc_wr, enc_cp, mI_neg, mI_add, mI_sub, mI_mul, mI_ix, mm_ck_ok, mm_nz_ok, mm_bo_c, mm_bo_m0, mm_bo_m1, b01, Int.toNat_natCast, Int.reduceToNat, Int.reduceNeg, Int.reduceSub, Int.reduceAdd, Int.reduceMul, Int.reduceLT, Int.reduceLE, Int.reduceEq, ↓reduceIte, not_true, not_false_eq_true, not_true_eq_false, and_self, true_and, and_true, false_and, and_false, Decidable.not_not, stv1, stv2, stv3, stv4] at hX
              simp (implicitDefEqProofs := false) (maxSteps := 1000000) (disch := omega) only [e4, e5, n4, c5.1, c5.2, cast_s, iw_iw, ↓mm_lt_s, ↓cl_in, ↓cl_wi, ↓cl_has, ↓cl_isP, mL_le, lit_n, litL_n, mL_mI, mL_neg, mm_cl_s, mI_lt, mI_le, mI_eq, enc_at, enc_wr, enc_cp, mI_neg, mI_add, mI_sub, mI_mul, mI_ix, mm_ck_ok, mm_nz_ok, mm_bo_c, mm_bo_m0, mm_bo_m1, b01, Int.toNat_natCast, Int.reduceToNat, Int.reduceNeg, Int.reduceSub, Int.reduceAdd, Int.reduceMul, Int.reduceLT, Int.reduceLE, Int.reduceEq, ↓reduceIte, not_true, not_false_eq_true, not_true_eq_false, and_self, true_and, and_true, false_and, and_false, Decidable.not_not, stv1, stv2, stv3, stv4] at hM2
              refine ⟨1, _, _, q5 + 1, hX, hM2, A5, Or.inr ⟨rfl, fun j hj => ?_⟩⟩
              by_cases ej : j = 4
              · subst ej
                rw [e6, iw_ne (by omega), e4]
                exact ⟨rfl, by omega, by omega⟩
              · rw [iw_ne (by omega), iw_ne (by omega), iw_ne (by omega), iw_ne (by omega), iw_ne (by omega), iw_ne (by omega)]
                exact C4 j (by omega)
            · have e6 : iw (iw σ4 27 1 (q5 : Int)) 29 (f + 4) (-1) 29 (f + 4) = -1 := iw_eq rfl rfl
              have A5 := (A4.wm (c := f + 4) (v := b5 - 48) (by omega)).wx (c := f + 4) (v := -1) (by omega)
              have hX' : fX4_readPerson (mI f) (enc σ) = some (mI 0, enc (iw (iw σ4 27 1 (q5 : Int)) 29 (f + 4) (-1))) := by
                rw [hX]
                by_cases f1 : b5 - 48 < 1
                · simp (implicitDefEqProofs := false) (maxSteps := 1000000) (disch := omega) only [m1, m2, e3, n4, f1, e6, ↓mm_lt_s, ↓cl_in, ↓cl_wi, ↓cl_has, ↓cl_isP, mL_le, lit_n, litL_n, mL_mI, mL_neg, mm_cl_s, mI_lt, mI_le, mI_eq, enc_at, enc_wr, enc_cp, mI_neg, mI_add, mI_sub, mI_mul, mI_ix, mm_ck_ok, mm_nz_ok, mm_bo_c, mm_bo_m0, mm_bo_m1, b01, Int.toNat_natCast, Int.reduceToNat, Int.reduceNeg, Int.reduceSub, Int.reduceAdd, Int.reduceMul, Int.reduceLT, Int.reduceLE, Int.reduceEq, ↓reduceIte, not_true, not_false_eq_true, not_true_eq_false, and_self, true_and, and_true, false_and, and_false, Decidable.not_not, stv1, stv2, stv3, stv4]
                · have f2 : ¬ b5 - 48 ≤ 6 := by omega
                  simp (implicitDefEqProofs := false) (maxSteps := 1000000) (disch := omega) only [m1, m2, e3, n4, f1, f2, e6, ↓mm_lt_s, ↓cl_in, ↓cl_wi, ↓cl_has, ↓cl_isP, mL_le, lit_n, litL_n, mL_mI, mL_neg, mm_cl_s, mI_lt, mI_le, mI_eq, enc_at, enc_wr, enc_cp, mI_neg, mI_add, mI_sub, mI_mul, mI_ix, mm_ck_ok, mm_nz_ok, mm_bo_c, mm_bo_m0, mm_bo_m1, b01, Int.toNat_natCast, Int.reduceToNat, Int.reduceNeg, Int.reduceSub, Int.reduceAdd, Int.reduceMul, Int.reduceLT, Int.reduceLE, Int.reduceEq, ↓reduceIte, not_true, not_false_eq_true, not_true_eq_false, and_self, true_and, and_true, false_and, and_false, Decidable.not_not, stv1, stv2, stv3, stv4]
              simp (implicitDefEqProofs := false) (maxSteps := 1000000) (disch := omega) only [e4, e5, n4, c5, cast_s, iw_iw, ↓mm_lt_s, ↓cl_in, ↓cl_wi, ↓cl_has, ↓cl_isP, mL_le, lit_n, litL_n, mL_mI, mL_neg, mm_cl_s, mI_lt, mI_le, mI_eq, enc_at, enc_wr, enc_cp, mI_neg, mI_add, mI_sub, mI_mul, mI_ix, mm_ck_ok, mm_nz_ok, mm_bo_c, mm_bo_m0, mm_bo_m1, b01, Int.toNat_natCast, Int.reduceToNat, Int.reduceNeg, Int.reduceSub, Int.reduceAdd, Int.reduceMul, Int.reduceLT, Int.reduceLE, Int.reduceEq, ↓reduceIte, not_true, not_false_eq_true, not_true_eq_false, and_self, true_and, and_true, false_and, and_false, Decidable.not_not, stv1, stv2, stv3, stv4] at hM2
              exact ⟨0, _, _, q5, hX', hM2, A5, Or.inl ⟨rfl, atB_iw (by omega) w3'⟩⟩
          · have e6 : iw (iw σ4 27 1 (q4 : Int)) 29 (f + 4) 1 29 (f + 4) = 1 := iw_eq rfl rfl
            simp (implicitDefEqProofs := false) (maxSteps := 1000000) (disch := omega) only [c4, n4, e6, ↓mm_lt_s, ↓cl_in, ↓cl_wi, ↓cl_has, ↓cl_isP, mL_le, lit_n, litL_n, mL_mI, mL_neg, mm_cl_s, mI_lt, mI_le, mI_eq, enc_at, enc_wr, enc_cp, mI_neg, mI_add, mI_sub, mI_mul, mI_ix, mm_ck_ok, mm_nz_ok, mm_bo_c, mm_bo_m0, mm_bo_m1, b01, Int.toNat_natCast, Int.reduceToNat, Int.reduceNeg, Int.reduceSub, Int.reduceAdd, Int.reduceMul, Int.reduceLT, Int.reduceLE, Int.reduceEq, ↓reduceIte, not_true, not_false_eq_true, not_true_eq_false, and_self, true_and, and_true, false_and, and_false, Decidable.not_not, stv1, stv2, stv3, stv4] at hX
            simp (implicitDefEqProofs := false) (maxSteps := 1000000) (disch := omega) only [c4, ↓mm_lt_s, ↓cl_in, ↓cl_wi, ↓cl_has, ↓cl_isP, mL_le, lit_n, litL_n, mL_mI, mL_neg, mm_cl_s, mI_lt, mI_le, mI_eq, enc_at, enc_wr, enc_cp, mI_neg, mI_add, mI_sub, mI_mul, mI_ix, mm_ck_ok, mm_nz_ok, mm_bo_c, mm_bo_m0, mm_bo_m1, b01, Int.toNat_natCast, Int.reduceToNat, Int.reduceNeg, Int.reduceSub, Int.reduceAdd, Int.reduceMul, Int.reduceLT, Int.reduceLE, Int.reduceEq, ↓reduceIte, not_true, not_false_eq_true, not_true_eq_false, and_self, true_and, and_true, false_and, and_false, Decidable.not_not, stv1, stv2, stv3, stv4] at hM2
            refine ⟨1, _, _, q4, hX, hM2, A2.wx (by omega), Or.inr ⟨rfl, fun j hj => ?_⟩⟩
            by_cases ej : j = 4
            · subst ej
              rw [e6, iw_ne (by omega), iw_eq rfl rfl]
              exact ⟨rfl, by omega, by omega⟩
            · rw [iw_ne (by omega), iw_ne (by omega), iw_ne (by omega), iw_ne (by omega)]
              exact C4 j (by omega)
        · simp (implicitDefEqProofs := false) (maxSteps := 1000000) (disch := omega) only [n3, e1, c3, ↓mm_lt_s, ↓cl_in, ↓cl_wi, ↓cl_has, ↓cl_isP, mL_le, lit_n, litL_n, mL_mI, mL_neg, mm_cl_s, mI_lt, mI_le, mI_eq, enc_at, enc_wr, enc_cp, mI_neg, mI_add, mI_sub, mI_mul, mI_ix, mm_ck_ok, mm_nz_ok, mm_bo_c, mm_bo_m0, mm_bo_m1, b01, Int.toNat_natCast, Int.reduceToNat, Int.reduceNeg, Int.reduceSub, Int.reduceAdd, Int.reduceMul, Int.reduceLT, Int.reduceLE, Int.reduceEq, ↓reduceIte, not_true, not_false_eq_true, not_true_eq_false, and_self, true_and, and_true, false_and, and_false, Decidable.not_not, stv1, stv2, stv3, stv4] at hX
          simp (implicitDefEqProofs := false) (maxSteps := 1000000) (disch := omega) only [n3, e2, c3, ↓mm_lt_s, ↓cl_in, ↓cl_wi, ↓cl_has, ↓cl_isP, mL_le, lit_n, litL_n, mL_mI, mL_neg, mm_cl_s, mI_lt, mI_le, mI_eq, enc_at, enc_wr, enc_cp, mI_neg, mI_add, mI_sub, mI_mul, mI_ix, mm_ck_ok, mm_nz_ok, mm_bo_c, mm_bo_m0, mm_bo_m1, b01, Int.toNat_natCast, Int.reduceToNat, Int.reduceNeg, Int.reduceSub, Int.reduceAdd, Int.reduceMul, Int.reduceLT, Int.reduceLE, Int.reduceEq, ↓reduceIte, not_true, not_false_eq_true, not_true_eq_false, and_self, true_and, and_true, false_and, and_false, Decidable.not_not, stv1, stv2, stv3, stv4] at hM2
          have hb : atB (iw (iw τ3 0 6 (q3 : Int)) 4 (f + 3) r3) n q3 := by
            rcases a5 with a5 | a5
            · omega
            · exact atB_iw (by omega) (atB_iw (by omega) a5.2)
          exact ⟨0, _, _, q3, hX, hM2, S4, Or.inl ⟨rfl, hb⟩⟩
  · simp (implicitDefEqProofs := false) (maxSteps := 1000000) (disch := omega) only [n0, n1, n2, n3, n4, z0, e1, c0, ↓mm_lt_s, ↓cl_in, ↓cl_wi, ↓cl_has, ↓cl_isP, mL_le, lit_n, litL_n, mL_mI, mL_neg, mm_cl_s, mI_lt, mI_le, mI_eq, enc_at, enc_wr, enc_cp, mI_neg, mI_add, mI_sub, mI_mul, mI_ix, mm_ck_ok, mm_nz_ok, mm_bo_c, mm_bo_m0, mm_bo_m1, b01, Int.toNat_natCast, Int.reduceToNat, Int.reduceNeg, Int.reduceSub, Int.reduceAdd, Int.reduceMul, Int.reduceLT, Int.reduceLE, Int.reduceEq, ↓reduceIte, not_true, not_false_eq_true, not_true_eq_false, and_self, true_and, and_true, false_and, and_false, Decidable.not_not, stv1, stv2, stv3, stv4] at hX
    simp (implicitDefEqProofs := false) (maxSteps := 1000000) (disch := omega) only [e2, c0, ↓mm_lt_s, ↓cl_in, ↓cl_wi, ↓cl_has, ↓cl_isP, mL_le, lit_n, litL_n, mL_mI, mL_neg, mm_cl_s, mI_lt, mI_le, mI_eq, enc_at, enc_wr, enc_cp, mI_neg, mI_add, mI_sub, mI_mul, mI_ix, mm_ck_ok, mm_nz_ok, mm_bo_c, mm_bo_m0, mm_bo_m1, b01, Int.toNat_natCast, Int.reduceToNat, Int.reduceNeg, Int.reduceSub, Int.reduceAdd, Int.reduceMul, Int.reduceLT, Int.reduceLE, Int.reduceEq, ↓reduceIte, not_true, not_false_eq_true, not_true_eq_false, and_self, true_and, and_true, false_and, and_false, Decidable.not_not, stv1, stv2, stv3, stv4] at hM
    have hb : atB (iw (iw τ 0 6 (q0 : Int)) 4 f r0) n q0 := by
      rcases a5 with a5 | a5
      · omega
      · exact atB_iw (by omega) (atB_iw (by omega) a5.2)
    exact ⟨0, _, _, q0, hX, hM, S1, Or.inl ⟨rfl, hb⟩⟩
