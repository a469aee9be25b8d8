theorem and255 (x : Int64) : ∃ m : Nat, m < 256 ∧ x &&& mL 255 = mL m ∧ x.toInt32 &&& mI 255 = mI m := by
  refine ⟨x.toBitVec.toNat % 256, Nat.mod_lt _ (by decide), ?_, ?_⟩
  · apply Int64.toBitVec_inj.mp
    apply BitVec.eq_of_toNat_eq
    have h : (mL 255).toBitVec = 255#64 := by decide
    have h2 : (mL ((x.toBitVec.toNat % 256 : Nat) : Int)).toBitVec = BitVec.ofNat 64 (x.toBitVec.toNat % 256) := by
      exact BitVec.ofInt_natCast _ _
    rw [Int64.toBitVec_and, h, h2, BitVec.toNat_and, BitVec.toNat_ofNat, BitVec.toNat_ofNat]
    rw [show 255 % 2 ^ 64 = 2 ^ 8 - 1 from by decide, Nat.and_two_pow_sub_one_eq_mod]
    have := Nat.mod_lt x.toBitVec.toNat (show 0 < 256 by decide)
    rw [Nat.mod_eq_of_lt (show x.toBitVec.toNat % 256 < 2 ^ 64 by omega)]
  · apply Int32.toBitVec_inj.mp
    apply BitVec.eq_of_toNat_eq
    have h : (mI 255).toBitVec = 255#32 := by decide
    have h2 : (mI ((x.toBitVec.toNat % 256 : Nat) : Int)).toBitVec = BitVec.ofNat 32 (x.toBitVec.toNat % 256) := by
      exact BitVec.ofInt_natCast _ _
    have h3 : x.toInt32.toBitVec.toNat = x.toBitVec.toNat % 2 ^ 32 := by
      show (BitVec.signExtend 32 x.toBitVec).toNat = _
      rw [BitVec.signExtend_eq_setWidth_of_le _ (by decide), BitVec.toNat_setWidth]
    rw [Int32.toBitVec_and, h, h2, BitVec.toNat_and, h3, BitVec.toNat_ofNat, BitVec.toNat_ofNat]
    rw [show 255 % 2 ^ 32 = 2 ^ 8 - 1 from by decide, Nat.and_two_pow_sub_one_eq_mod]
    have := Nat.mod_lt x.toBitVec.toNat (show 0 < 256 by decide)
    rw [Nat.mod_eq_of_lt (show x.toBitVec.toNat % 256 < 2 ^ 32 by omega)]
    omega
theorem mL_32 {m : Nat} (h : m < 256) : (mL m).toInt32 = mI m := by
  apply Int32.toInt_inj.mp
  rw [Int64.toInt_toInt32, mL_toInt (by omega) (by omega), mI_toInt (by omega) (by omega)]
  show (m : Int).bmod 4294967296 = m
  exact Int.bmod_eq_of_le (by omega) (by omega)
/-- the bytes of a word -/
theorem bytes (w : Int64) : ∃ B : Nat → Nat, ∀ i : Nat, B i < 256 ∧ (w >>> (mL (8 * (i : Int)) &&& mL 63)) &&& mL 255 = mL (B i) ∧ (w >>> (mL (8 * (i : Int)) &&& mL 63)).toInt32 &&& mI 255 = mI (B i) :=
  ⟨fun i => (and255 (w >>> (mL (8 * (i : Int)) &&& mL 63))).choose, fun i => (and255 (w >>> (mL (8 * (i : Int)) &&& mL 63))).choose_spec⟩
theorem lowB {w : Int64} {B : Nat → Nat} (hB : ∀ i : Nat, B i < 256 ∧ (w >>> (mL (8 * (i : Int)) &&& mL 63)) &&& mL 255 = mL (B i) ∧ (w >>> (mL (8 * (i : Int)) &&& mL 63)).toInt32 &&& mI 255 = mI (B i)) (i : Nat) (hi : i < 8) (μ : Mm) : fX6_lowByte w (mI i) μ = some (mI (B i), μ) := by
  unfold fX6_lowByte
  simp (implicitDefEqProofs := false) (maxSteps := 1000000) (disch := omega) only [↓mm_lt_s, ↓cl_in, ↓cl_wi, ↓cl_has, ↓cl_isP, mL_le, lit_n, litL_n, mL_mI, mL_neg, mm_cl_s, mI_lt, mI_le, mI_eq, enc_at, enc_wr, enc_cp, mI_neg, mI_add, mI_sub, mI_mul, mI_ix, mm_ck_ok, mm_nz_ok, mm_bo_c, mm_bo_m0, mm_bo_m1, b01, Int.toNat_natCast, Int.reduceToNat, Int.reduceNeg, Int.reduceSub, Int.reduceAdd, Int.reduceMul, Int.reduceLT, Int.reduceLE, Int.reduceEq, ↓reduceIte, not_true, not_false_eq_true, not_true_eq_false, and_self, true_and, and_true, false_and, and_false, Decidable.not_not, stv1, stv2, stv3, stv4]
  rw [(hB i).2.2]
theorem typX_ok {w : Int64} {B : Nat → Nat} (hB : ∀ i : Nat, B i < 256 ∧ (w >>> (mL (8 * (i : Int)) &&& mL 63)) &&& mL 255 = mL (B i) ∧ (w >>> (mL (8 * (i : Int)) &&& mL 63)).toInt32 &&& mI 255 = mI (B i)) {c : Nat} (hc : c ≤ 8) {μ : Mm} {K0 K1 : Mm → Aa} {z : Int32 → Mm → Aa} : ∀ (d i N : Nat), i + d = c → d < N → (∀ j, i ≤ j → j < c → 32 ≤ B j ∧ B j ≤ 126) → mm_lk z (fX6_type_L16 w (mI c) K0 K1) N (mI i) μ = K1 μ
  | d, i, 0, _, h, _ => absurd h (Nat.not_lt_zero d)
  | 0, i, N + 1, h, _, _ => by
    rw [mm_lk_s, fX6_type_L16]
    simp (implicitDefEqProofs := false) (maxSteps := 1000000) (disch := omega) only [↓mm_lt_s, ↓cl_in, ↓cl_wi, ↓cl_has, ↓cl_isP, mL_le, lit_n, litL_n, mL_mI, mL_neg, mm_cl_s, mI_lt, mI_le, mI_eq, enc_at, enc_wr, enc_cp, mI_neg, mI_add, mI_sub, mI_mul, mI_ix, mm_ck_ok, mm_nz_ok, mm_bo_c, mm_bo_m0, mm_bo_m1, b01, Int.toNat_natCast, Int.reduceToNat, Int.reduceNeg, Int.reduceSub, Int.reduceAdd, Int.reduceMul, Int.reduceLT, Int.reduceLE, Int.reduceEq, ↓reduceIte, not_true, not_false_eq_true, not_true_eq_false, and_self, true_and, and_true, false_and, and_false, Decidable.not_not, stv1, stv2, stv3, stv4]
    repeat (first | rw [if_pos (by omega)] | rw [if_neg (by omega)])
  | d + 1, i, N + 1, h, h2, h3 => by
    have q := h3 i (by omega) (by omega)
    rw [mm_lk_s, fX6_type_L16, lowB hB i (by omega)]
    simp (implicitDefEqProofs := false) (maxSteps := 1000000) (disch := omega) only [cast_s, ↓mm_lt_s, ↓cl_in, ↓cl_wi, ↓cl_has, ↓cl_isP, mL_le, lit_n, litL_n, mL_mI, mL_neg, mm_cl_s, mI_lt, mI_le, mI_eq, enc_at, enc_wr, enc_cp, mI_neg, mI_add, mI_sub, mI_mul, mI_ix, mm_ck_ok, mm_nz_ok, mm_bo_c, mm_bo_m0, mm_bo_m1, b01, Int.toNat_natCast, Int.reduceToNat, Int.reduceNeg, Int.reduceSub, Int.reduceAdd, Int.reduceMul, Int.reduceLT, Int.reduceLE, Int.reduceEq, ↓reduceIte, not_true, not_false_eq_true, not_true_eq_false, and_self, true_and, and_true, false_and, and_false, Decidable.not_not, stv1, stv2, stv3, stv4]
    repeat (first | rw [if_pos (by omega)] | rw [if_neg (by omega)])
    exact typX_ok hB hc d (i + 1) N (by omega) (by omega) (fun j h4 h5 => h3 j (by omega) h5)
theorem typX_no {w : Int64} {B : Nat → Nat} (hB : ∀ i : Nat, B i < 256 ∧ (w >>> (mL (8 * (i : Int)) &&& mL 63)) &&& mL 255 = mL (B i) ∧ (w >>> (mL (8 * (i : Int)) &&& mL 63)).toInt32 &&& mI 255 = mI (B i)) {c : Nat} (hc : c ≤ 8) {μ : Mm} {K0 K1 : Mm → Aa} {z : Int32 → Mm → Aa} : ∀ (d i N : Nat), i + d = c → d < N → (∃ j, i ≤ j ∧ j < c ∧ ¬ (32 ≤ B j ∧ B j ≤ 126)) → mm_lk z (fX6_type_L16 w (mI c) K0 K1) N (mI i) μ = K0 μ
  | d, i, 0, _, h, _ => absurd h (Nat.not_lt_zero d)
  | 0, i, N + 1, h, _, h3 => by
    obtain ⟨j, h4, h5, -⟩ := h3
    omega
  | d + 1, i, N + 1, h, h2, h3 => by
    have q := (hB i).1
    rw [mm_lk_s, fX6_type_L16, lowB hB i (by omega)]
    simp (implicitDefEqProofs := false) (maxSteps := 1000000) (disch := omega) only [cast_s, ↓mm_lt_s, ↓cl_in, ↓cl_wi, ↓cl_has, ↓cl_isP, mL_le, lit_n, litL_n, mL_mI, mL_neg, mm_cl_s, mI_lt, mI_le, mI_eq, enc_at, enc_wr, enc_cp, mI_neg, mI_add, mI_sub, mI_mul, mI_ix, mm_ck_ok, mm_nz_ok, mm_bo_c, mm_bo_m0, mm_bo_m1, b01, Int.toNat_natCast, Int.reduceToNat, Int.reduceNeg, Int.reduceSub, Int.reduceAdd, Int.reduceMul, Int.reduceLT, Int.reduceLE, Int.reduceEq, ↓reduceIte, not_true, not_false_eq_true, not_true_eq_false, and_self, true_and, and_true, false_and, and_false, Decidable.not_not, stv1, stv2, stv3, stv4]
    by_cases c1 : 32 ≤ B i ∧ B i ≤ 126
    · repeat (first | rw [if_pos (by omega)] | rw [if_neg (by omega)])
      refine typX_no hB hc d (i + 1) N (by omega) (by omega) ?_
      obtain ⟨j, h4, h5, h6⟩ := h3
      refine ⟨j, ?_, h5, h6⟩
      by_cases e9 : j = i
      · subst e9; exact absurd c1 h6
      · omega
    · by_cases c2 : B i < 32
      · repeat (first | rw [if_pos (by omega)] | rw [if_neg (by omega)])
      · repeat (first | rw [if_pos (by omega)] | rw [if_neg (by omega)])
theorem typM_ok {w : Int64} {B : Nat → Nat} (hB : ∀ i : Nat, B i < 256 ∧ (w >>> (mL (8 * (i : Int)) &&& mL 63)) &&& mL 255 = mL (B i) ∧ (w >>> (mL (8 * (i : Int)) &&& mL 63)).toInt32 &&& mI 255 = mI (B i)) {μ : Mm} {K0 K1 : Mm → Aa} {z : Int32 → Mm → Aa} : ∀ (i N : Nat), i ≤ 8 → i < N → (∀ j, j < i → 32 ≤ B j ∧ B j ≤ 126) → mm_lk z (fX7_type_L19 w K0 K1) N (mI ((i : Int) - 1)) μ = K1 μ
  | i, 0, _, h, _ => absurd h (Nat.not_lt_zero i)
  | 0, N + 1, _, _, _ => by
    rw [mm_lk_s, fX7_type_L19]
    simp (implicitDefEqProofs := false) (maxSteps := 1000000) (disch := omega) only [↓mm_lt_s, ↓cl_in, ↓cl_wi, ↓cl_has, ↓cl_isP, mL_le, lit_n, litL_n, mL_mI, mL_neg, mm_cl_s, mI_lt, mI_le, mI_eq, enc_at, enc_wr, enc_cp, mI_neg, mI_add, mI_sub, mI_mul, mI_ix, mm_ck_ok, mm_nz_ok, mm_bo_c, mm_bo_m0, mm_bo_m1, b01, Int.toNat_natCast, Int.reduceToNat, Int.reduceNeg, Int.reduceSub, Int.reduceAdd, Int.reduceMul, Int.reduceLT, Int.reduceLE, Int.reduceEq, ↓reduceIte, not_true, not_false_eq_true, not_true_eq_false, and_self, true_and, and_true, false_and, and_false, Decidable.not_not, stv1, stv2, stv3, stv4]
    repeat (first | rw [if_pos (by omega)] | rw [if_neg (by omega)])
  | i + 1, N + 1, h8, h2, h3 => by
    have q := h3 i (by omega)
    rw [mm_lk_s, fX7_type_L19, show ((i + 1 : Nat) : Int) - 1 = (i : Int) by omega]
    simp (implicitDefEqProofs := false) (maxSteps := 1000000) (disch := omega) only [↓mm_lt_s, ↓cl_in, ↓cl_wi, ↓cl_has, ↓cl_isP, mL_le, lit_n, litL_n, mL_mI, mL_neg, mm_cl_s, mI_lt, mI_le, mI_eq, enc_at, enc_wr, enc_cp, mI_neg, mI_add, mI_sub, mI_mul, mI_ix, mm_ck_ok, mm_nz_ok, mm_bo_c, mm_bo_m0, mm_bo_m1, b01, Int.toNat_natCast, Int.reduceToNat, Int.reduceNeg, Int.reduceSub, Int.reduceAdd, Int.reduceMul, Int.reduceLT, Int.reduceLE, Int.reduceEq, ↓reduceIte, not_true, not_false_eq_true, not_true_eq_false, and_self, true_and, and_true, false_and, and_false, Decidable.not_not, stv1, stv2, stv3, stv4]
    rw [(hB i).2.1]
    simp (implicitDefEqProofs := false) (maxSteps := 1000000) (disch := omega) only [↓mm_lt_s, ↓cl_in, ↓cl_wi, ↓cl_has, ↓cl_isP, mL_le, lit_n, litL_n, mL_mI, mL_neg, mm_cl_s, mI_lt, mI_le, mI_eq, enc_at, enc_wr, enc_cp, mI_neg, mI_add, mI_sub, mI_mul, mI_ix, mm_ck_ok, mm_nz_ok, mm_bo_c, mm_bo_m0, mm_bo_m1, b01, Int.toNat_natCast, Int.reduceToNat, Int.reduceNeg, Int.reduceSub, Int.reduceAdd, Int.reduceMul, Int.reduceLT, Int.reduceLE, Int.reduceEq, ↓reduceIte, not_true, not_false_eq_true, not_true_eq_false, and_self, true_and, and_true, false_and, and_false, Decidable.not_not, stv1, stv2, stv3, stv4]
    repeat (first | rw [if_pos (by omega)] | rw [if_neg (by omega)])
    rw [show (i : Int) + -1 = (i : Int) - 1 by omega]
    exact typM_ok hB i N (by omega) (by omega) (fun j hj => h3 j (by omega))
theorem typM_no {w : Int64} {B : Nat → Nat} (hB : ∀ i : Nat, B i < 256 ∧ (w >>> (mL (8 * (i : Int)) &&& mL 63)) &&& mL 255 = mL (B i) ∧ (w >>> (mL (8 * (i : Int)) &&& mL 63)).toInt32 &&& mI 255 = mI (B i)) {μ : Mm} {K0 K1 : Mm → Aa} {z : Int32 → Mm → Aa} : ∀ (i N : Nat), i ≤ 8 → i < N → (∃ j, j < i ∧ ¬ (32 ≤ B j ∧ B j ≤ 126)) → mm_lk z (fX7_type_L19 w K0 K1) N (mI ((i : Int) - 1)) μ = K0 μ
  | i, 0, _, h, _ => absurd h (Nat.not_lt_zero i)
  | 0, N + 1, _, _, h3 => by
    obtain ⟨j, h4, -⟩ := h3
    omega
  | i + 1, N + 1, h8, h2, h3 => by
    have q := (hB i).1
    rw [mm_lk_s, fX7_type_L19, show ((i + 1 : Nat) : Int) - 1 = (i : Int) by omega]
    simp (implicitDefEqProofs := false) (maxSteps := 1000000) (disch := omega) only [↓mm_lt_s, ↓cl_in, ↓cl_wi, ↓cl_has, ↓cl_isP, mL_le, lit_n, litL_n, mL_mI, mL_neg, mm_cl_s, mI_lt, mI_le, mI_eq, enc_at, enc_wr, enc_cp, mI_neg, mI_add, mI_sub, mI_mul, mI_ix, mm_ck_ok, mm_nz_ok, mm_bo_c, mm_bo_m0, mm_bo_m1, b01, Int.toNat_natCast, Int.reduceToNat, Int.reduceNeg, Int.reduceSub, Int.reduceAdd, Int.reduceMul, Int.reduceLT, Int.reduceLE, Int.reduceEq, ↓reduceIte, not_true, not_false_eq_true, not_true_eq_false, and_self, true_and, and_true, false_and, and_false, Decidable.not_not, stv1, stv2, stv3, stv4]
    rw [(hB i).2.1]
    simp (implicitDefEqProofs := false) (maxSteps := 1000000) (disch := omega) only [↓mm_lt_s, ↓cl_in, ↓cl_wi, ↓cl_has, ↓cl_isP, mL_le, lit_n, litL_n, mL_mI, mL_neg, mm_cl_s, mI_lt, mI_le, mI_eq, enc_at, enc_wr, enc_cp, mI_neg, mI_add, mI_sub, mI_mul, mI_ix, mm_ck_ok, mm_nz_ok, mm_bo_c, mm_bo_m0, mm_bo_m1, b01, Int.toNat_natCast, Int.reduceToNat, Int.reduceNeg, Int.reduceSub, Int.reduceAdd, Int.reduceMul, Int.reduceLT, Int.reduceLE, Int.reduceEq, ↓reduceIte, not_true, not_false_eq_true, not_true_eq_false, and_self, true_and, and_true, false_and, and_false, Decidable.not_not, stv1, stv2, stv3, stv4]
    by_cases c1 : 32 ≤ B i ∧ B i ≤ 126
    · repeat (first | rw [if_pos (by omega)] | rw [if_neg (by omega)])
      rw [show (i : Int) + -1 = (i : Int) - 1 by omega]
      refine typM_no hB i N (by omega) (by omega) ?_
      obtain ⟨j, h4, h6⟩ := h3
      refine ⟨j, ?_, h6⟩
      by_cases e9 : j = i
      · subst e9; exact absurd c1 h6
      · omega
    · repeat (first | rw [if_pos (by omega)] | rw [if_neg (by omega)])
/-- bytes i - 1 .. 0 come behind a row of t -/
def tap (B : Nat → Nat) (q k j : Nat) : Nat → Nat → IM → IM
  | 0, _, σ => σ
  | i + 1, t, σ => tap B q k j i (t + 1) (iw (iw σ q t (B i)) k j ((t : Int) + 1))
theorem put4_s {t : Nat} {b : Int} {σ : IM} (ht : σ 27 0 = (t : Int)) (h80 : t < 80) : fX4_put (mI b) (enc σ) = some (mI 0, enc (iw (iw σ 28 t b) 27 0 ((t : Int) + 1))) := by
  unfold fX4_put
  have e : iw σ 28 t b 27 0 = (t : Int) := by rw [iw_ne (by omega), ht]
  simp (implicitDefEqProofs := false) (maxSteps := 1000000) (disch := omega) only [ht, e, ↓mm_lt_s, ↓cl_in, ↓cl_wi, ↓cl_has, ↓cl_isP, mL_le, lit_n, litL_n, mL_mI, mL_neg, mm_cl_s, mI_lt, mI_le, mI_eq, enc_at, enc_wr, enc_cp, mI_neg, mI_add, mI_sub, mI_mul, mI_ix, mm_ck_ok, mm_nz_ok, mm_bo_c, mm_bo_m0, mm_bo_m1, b01, Int.toNat_natCast, Int.reduceToNat, Int.reduceNeg, Int.reduceSub, Int.reduceAdd, Int.reduceMul, Int.reduceLT, Int.reduceLE, Int.reduceEq, ↓reduceIte, not_true, not_false_eq_true, not_true_eq_false, and_self, true_and, and_true, false_and, and_false, Decidable.not_not, stv1, stv2, stv3, stv4]
  repeat (first | rw [if_pos (by omega)] | rw [if_neg (by omega)])
theorem typX_put {w : Int64} {B : Nat → Nat} (hB : ∀ i : Nat, B i < 256 ∧ (w >>> (mL (8 * (i : Int)) &&& mL 63)) &&& mL 255 = mL (B i) ∧ (w >>> (mL (8 * (i : Int)) &&& mL 63)).toInt32 &&& mI 255 = mI (B i)) {K : Mm → Aa} {z : Int32 → Mm → Aa} : ∀ (i t N : Nat) (σ : IM), i ≤ 8 → i < N → σ 27 0 = (t : Int) → t + i ≤ 80 → mm_lk z (fX6_type_L74 w K) N (mI ((i : Int) - 1)) (enc σ) = K (enc (tap B 28 27 0 i t σ))
  | i, t, 0, σ, _, h, _, _ => absurd h (Nat.not_lt_zero i)
  | 0, t, N + 1, σ, _, _, _, _ => by
    rw [mm_lk_s, fX6_type_L74]
    simp (implicitDefEqProofs := false) (maxSteps := 1000000) (disch := omega) only [↓mm_lt_s, ↓cl_in, ↓cl_wi, ↓cl_has, ↓cl_isP, mL_le, lit_n, litL_n, mL_mI, mL_neg, mm_cl_s, mI_lt, mI_le, mI_eq, enc_at, enc_wr, enc_cp, mI_neg, mI_add, mI_sub, mI_mul, mI_ix, mm_ck_ok, mm_nz_ok, mm_bo_c, mm_bo_m0, mm_bo_m1, b01, Int.toNat_natCast, Int.reduceToNat, Int.reduceNeg, Int.reduceSub, Int.reduceAdd, Int.reduceMul, Int.reduceLT, Int.reduceLE, Int.reduceEq, ↓reduceIte, not_true, not_false_eq_true, not_true_eq_false, and_self, true_and, and_true, false_and, and_false, Decidable.not_not, stv1, stv2, stv3, stv4]
    repeat (first | rw [if_pos (by omega)] | rw [if_neg (by omega)])
    rfl
  | i + 1, t, N + 1, σ, h8, h2, ht, h80 => by
    rw [mm_lk_s, fX6_type_L74, show ((i + 1 : Nat) : Int) - 1 = (i : Int) by omega, lowB hB i (by omega)]
    simp (implicitDefEqProofs := false) (maxSteps := 1000000) (disch := omega) only [↓mm_lt_s, ↓cl_in, ↓cl_wi, ↓cl_has, ↓cl_isP, mL_le, lit_n, litL_n, mL_mI, mL_neg, mm_cl_s, mI_lt, mI_le, mI_eq, enc_at, enc_wr, enc_cp, mI_neg, mI_add, mI_sub, mI_mul, mI_ix, mm_ck_ok, mm_nz_ok, mm_bo_c, mm_bo_m0, mm_bo_m1, b01, Int.toNat_natCast, Int.reduceToNat, Int.reduceNeg, Int.reduceSub, Int.reduceAdd, Int.reduceMul, Int.reduceLT, Int.reduceLE, Int.reduceEq, ↓reduceIte, not_true, not_false_eq_true, not_true_eq_false, and_self, true_and, and_true, false_and, and_false, Decidable.not_not, stv1, stv2, stv3, stv4]
    rw [put4_s ht (by omega)]
    simp (implicitDefEqProofs := false) (maxSteps := 1000000) (disch := omega) only [↓mm_lt_s, ↓cl_in, ↓cl_wi, ↓cl_has, ↓cl_isP, mL_le, lit_n, litL_n, mL_mI, mL_neg, mm_cl_s, mI_lt, mI_le, mI_eq, enc_at, enc_wr, enc_cp, mI_neg, mI_add, mI_sub, mI_mul, mI_ix, mm_ck_ok, mm_nz_ok, mm_bo_c, mm_bo_m0, mm_bo_m1, b01, Int.toNat_natCast, Int.reduceToNat, Int.reduceNeg, Int.reduceSub, Int.reduceAdd, Int.reduceMul, Int.reduceLT, Int.reduceLE, Int.reduceEq, ↓reduceIte, not_true, not_false_eq_true, not_true_eq_false, and_self, true_and, and_true, false_and, and_false, Decidable.not_not, stv1, stv2, stv3, stv4]
    repeat (first | rw [if_pos (by omega)] | rw [if_neg (by omega)])
    rw [show (i : Int) + -1 = (i : Int) - 1 by omega]
    exact typX_put hB i (t + 1) N _ (by omega) (by omega) (by rw [iw_eq rfl rfl]; omega) (by omega)
theorem typM_put {w : Int64} {B : Nat → Nat} (hB : ∀ i : Nat, B i < 256 ∧ (w >>> (mL (8 * (i : Int)) &&& mL 63)) &&& mL 255 = mL (B i) ∧ (w >>> (mL (8 * (i : Int)) &&& mL 63)).toInt32 &&& mI 255 = mI (B i)) {K : Mm → Aa} {z : Int32 → Mm → Aa} : ∀ (i t N : Nat) (τ : IM), i ≤ 8 → i < N → τ 0 5 = (t : Int) → t + i ≤ 80 → mm_lk z (fX7_type_L74 w K) N (mI ((i : Int) - 1)) (enc τ) = K (enc (tap B 3 0 5 i t τ))
  | i, t, 0, τ, _, h, _, _ => absurd h (Nat.not_lt_zero i)
  | 0, t, N + 1, τ, _, _, _, _ => by
    rw [mm_lk_s, fX7_type_L74]
    simp (implicitDefEqProofs := false) (maxSteps := 1000000) (disch := omega) only [↓mm_lt_s, ↓cl_in, ↓cl_wi, ↓cl_has, ↓cl_isP, mL_le, lit_n, litL_n, mL_mI, mL_neg, mm_cl_s, mI_lt, mI_le, mI_eq, enc_at, enc_wr, enc_cp, mI_neg, mI_add, mI_sub, mI_mul, mI_ix, mm_ck_ok, mm_nz_ok, mm_bo_c, mm_bo_m0, mm_bo_m1, b01, Int.toNat_natCast, Int.reduceToNat, Int.reduceNeg, Int.reduceSub, Int.reduceAdd, Int.reduceMul, Int.reduceLT, Int.reduceLE, Int.reduceEq, ↓reduceIte, not_true, not_false_eq_true, not_true_eq_false, and_self, true_and, and_true, false_and, and_false, Decidable.not_not, stv1, stv2, stv3, stv4]
    repeat (first | rw [if_pos (by omega)] | rw [if_neg (by omega)])
    rfl
  | i + 1, t, N + 1, τ, h8, h2, ht, h80 => by
    rw [mm_lk_s, fX7_type_L74, show ((i + 1 : Nat) : Int) - 1 = (i : Int) by omega]
    simp (implicitDefEqProofs := false) (maxSteps := 1000000) (disch := omega) only [ht, ↓mm_lt_s, ↓cl_in, ↓cl_wi, ↓cl_has, ↓cl_isP, mL_le, lit_n, litL_n, mL_mI, mL_neg, mm_cl_s, mI_lt, mI_le, mI_eq, enc_at, enc_wr, enc_cp, mI_neg, mI_add, mI_sub, mI_mul, mI_ix, mm_ck_ok, mm_nz_ok, mm_bo_c, mm_bo_m0, mm_bo_m1, b01, Int.toNat_natCast, Int.reduceToNat, Int.reduceNeg, Int.reduceSub, Int.reduceAdd, Int.reduceMul, Int.reduceLT, Int.reduceLE, Int.reduceEq, ↓reduceIte, not_true, not_false_eq_true, not_true_eq_false, and_self, true_and, and_true, false_and, and_false, Decidable.not_not, stv1, stv2, stv3, stv4]
    rw [(hB i).2.1, mL_32 (hB i).1]
    have e : iw τ 3 t (B i) 0 5 = (t : Int) := by rw [iw_ne (by omega), ht]
    simp (implicitDefEqProofs := false) (maxSteps := 1000000) (disch := omega) only [e, ↓mm_lt_s, ↓cl_in, ↓cl_wi, ↓cl_has, ↓cl_isP, mL_le, lit_n, litL_n, mL_mI, mL_neg, mm_cl_s, mI_lt, mI_le, mI_eq, enc_at, enc_wr, enc_cp, mI_neg, mI_add, mI_sub, mI_mul, mI_ix, mm_ck_ok, mm_nz_ok, mm_bo_c, mm_bo_m0, mm_bo_m1, b01, Int.toNat_natCast, Int.reduceToNat, Int.reduceNeg, Int.reduceSub, Int.reduceAdd, Int.reduceMul, Int.reduceLT, Int.reduceLE, Int.reduceEq, ↓reduceIte, not_true, not_false_eq_true, not_true_eq_false, and_self, true_and, and_true, false_and, and_false, Decidable.not_not, stv1, stv2, stv3, stv4]
    repeat (first | rw [if_pos (by omega)] | rw [if_neg (by omega)])
    rw [show (i : Int) + -1 = (i : Int) - 1 by omega]
    exact typM_put hB i (t + 1) N _ (by omega) (by omega) (by rw [iw_eq rfl rfl]; omega) (by omega)
theorem RX.tape {σ τ σ' τ' : IM} (h : RX σ τ) (hx : ∀ k j, k < 27 ∨ 29 ≤ k → σ' k j = σ k j) (hm : ∀ k j, ¬ (k = 0 ∧ j = 5) → k ≠ 3 → τ' k j = τ k j) (ht : TRel σ' τ') : RX σ' τ' := by
  obtain ⟨a1, a2, a3, a4⟩ := h
  exact ⟨a1.cong (hm _ _ (by omega) (by omega)) (hm _ _ (by omega) (by omega)) (fun j => hx _ _ (by omega)) (fun j => hx _ _ (by omega)) (fun p j hp => hx _ _ (by omega)) (fun i => hm _ _ (by omega) (by omega)) (fun i => hm _ _ (by omega) (by omega)), a2.cong (hx _ _ (by omega)) (hm _ _ (by omega) (by omega)) (hm _ _ (by omega) (by omega)) (hm _ _ (by omega) (by omega)) (fun j => hx _ _ (by omega)) (fun j => hx _ _ (by omega)) (fun p j hp => hx _ _ (by omega)) (fun i => hm _ _ (by omega) (by omega)) (fun i => hm _ _ (by omega) (by omega)), ht, fun s hs => (a4 s hs).cong (fun j => hx _ _ (by omega)) (fun i => hx _ _ (by omega)) (hm _ _ (by omega) (by omega)) (hm _ _ (by omega) (by omega)) (fun i _ => hm _ _ (by omega) (by omega))⟩
theorem RX.tap {B : Nat → Nat} : ∀ (i t : Nat) (σ τ : IM), RX σ τ → τ 0 5 = (t : Int) → t + i ≤ 80 → (∀ j, j < i → 32 ≤ B j ∧ B j ≤ 126) → RX (tap B 28 27 0 i t σ) (tap B 3 0 5 i t τ) ∧ tap B 28 27 0 i t σ 27 0 = ((t + i : Nat) : Int) ∧ tap B 3 0 5 i t τ 0 5 = ((t + i : Nat) : Int)
  | 0, t, σ, τ, h, ht, _, _ => ⟨h, by rw [show t + 0 = t from rfl, ← ht]; exact h.2.2.1.1.1, ht⟩
  | i + 1, t, σ, τ, h, ht, h80, hB => by
    have R : RX (iw (iw σ 28 t (B i)) 27 0 ((t : Int) + 1)) (iw (iw τ 3 t (B i)) 0 5 ((t : Int) + 1)) := by
      refine h.tape (fun k j hk => by rw [iw_ne (by omega), iw_ne (by omega)]) (fun k j h1 h2 => by rw [iw_ne (by omega), iw_ne (by omega)]) ?_
      refine ⟨⟨by rw [iw_eq rfl rfl, iw_eq rfl rfl], by rw [iw_eq rfl rfl]; omega, by rw [iw_eq rfl rfl]; omega⟩, fun j hj => ?_⟩
      rw [iw_eq rfl rfl] at hj
      by_cases e : j = t
      · subst e
        have := hB i (by omega)
        rw [iw_ne (by omega), iw_eq rfl rfl, iw_ne (by omega), iw_eq rfl rfl]
        exact ⟨rfl, by omega, by omega⟩
      · rw [iw_ne (by omega), iw_ne (by omega), iw_ne (by omega), iw_ne (by omega)]
        exact h.2.2.1.2 j (by omega)
    obtain ⟨r1, r2, r3⟩ := RX.tap i (t + 1) _ _ R (by rw [iw_eq rfl rfl]; omega) (by omega) (fun j hj => hB j (by omega))
    exact ⟨r1, by rw [show t + (i + 1) = t + 1 + i by omega]; exact r2, by rw [show t + (i + 1) = t + 1 + i by omega]; exact r3⟩
theorem q_type (w : Int64) (b : Int) (hb : I32 b) {σ τ : IM} (h : RX σ τ) : Like (fX6_type w (mI b) (enc σ)) (fX7_type w (mI b) (enc τ)) := by
  obtain ⟨⟨t1, t2, t3⟩, t4⟩ := h.2.2.1
  obtain ⟨t, ht⟩ := Int.eq_ofNat_of_zero_le t2
  obtain ⟨B, hB⟩ := bytes w
  unfold fX6_type fX7_type
  generalize hfu : mm_fu = NF; have hNF : 4096 ≤ NF := by rw [← hfu]; exact Nat.le_refl _
  by_cases c1 : b < 1
  · have c2 : ¬ 1 ≤ b := by omega
    simp (implicitDefEqProofs := false) (maxSteps := 1000000) (disch := omega) only [c1, c2, ↓mm_lt_s, ↓cl_in, ↓cl_wi, ↓cl_has, ↓cl_isP, mL_le, lit_n, litL_n, mL_mI, mL_neg, mm_cl_s, mI_lt, mI_le, mI_eq, enc_at, enc_wr, enc_cp, mI_neg, mI_add, mI_sub, mI_mul, mI_ix, mm_ck_ok, mm_nz_ok, mm_bo_c, mm_bo_m0, mm_bo_m1, b01, Int.toNat_natCast, Int.reduceToNat, Int.reduceNeg, Int.reduceSub, Int.reduceAdd, Int.reduceMul, Int.reduceLT, Int.reduceLE, Int.reduceEq, ↓reduceIte, not_true, not_false_eq_true, not_true_eq_false, and_self, true_and, and_true, false_and, and_false, Decidable.not_not, stv1, stv2, stv3, stv4]
    exact Like.mk rfl rfl h
  · have c2 : 1 ≤ b := by omega
    by_cases c3 : b ≤ 8
    · obtain ⟨n, rfl⟩ := Int.eq_ofNat_of_zero_le (show 0 ≤ b by omega)
      simp (implicitDefEqProofs := false) (maxSteps := 1000000) (disch := omega) only [c1, c2, c3, t1, ↓mm_lt_s, ↓cl_in, ↓cl_wi, ↓cl_has, ↓cl_isP, mL_le, lit_n, litL_n, mL_mI, mL_neg, mm_cl_s, mI_lt, mI_le, mI_eq, enc_at, enc_wr, enc_cp, mI_neg, mI_add, mI_sub, mI_mul, mI_ix, mm_ck_ok, mm_nz_ok, mm_bo_c, mm_bo_m0, mm_bo_m1, b01, Int.toNat_natCast, Int.reduceToNat, Int.reduceNeg, Int.reduceSub, Int.reduceAdd, Int.reduceMul, Int.reduceLT, Int.reduceLE, Int.reduceEq, ↓reduceIte, not_true, not_false_eq_true, not_true_eq_false, and_self, true_and, and_true, false_and, and_false, Decidable.not_not, stv1, stv2, stv3, stv4]
      by_cases c4 : ∀ j, j < n → 32 ≤ B j ∧ B j ≤ 126
      · rw [typM_ok hB n NF (by omega) (by omega) c4]
        rw [show mI 0 = mI ((0 : Nat) : Int) from rfl, typX_ok hB (by omega) n 0 NF (by omega) (by omega) (fun j _ hj => c4 j hj)]
        simp (implicitDefEqProofs := false) (maxSteps := 1000000) (disch := omega) only [t1, ↓mm_lt_s, ↓cl_in, ↓cl_wi, ↓cl_has, ↓cl_isP, mL_le, lit_n, litL_n, mL_mI, mL_neg, mm_cl_s, mI_lt, mI_le, mI_eq, enc_at, enc_wr, enc_cp, mI_neg, mI_add, mI_sub, mI_mul, mI_ix, mm_ck_ok, mm_nz_ok, mm_bo_c, mm_bo_m0, mm_bo_m1, b01, Int.toNat_natCast, Int.reduceToNat, Int.reduceNeg, Int.reduceSub, Int.reduceAdd, Int.reduceMul, Int.reduceLT, Int.reduceLE, Int.reduceEq, ↓reduceIte, not_true, not_false_eq_true, not_true_eq_false, and_self, true_and, and_true, false_and, and_false, Decidable.not_not, stv1, stv2, stv3, stv4]
        by_cases c5 : t + n ≤ 80
        · rw [typX_put hB n t NF σ (by omega) (by omega) (t1.trans ht) c5, typM_put hB n t NF τ (by omega) (by omega) ht c5]
          obtain ⟨r1, r2, r3⟩ := RX.tap n t σ τ h ht c5 c4
          simp (implicitDefEqProofs := false) (maxSteps := 1000000) (disch := omega) only [r2, r3, ↓mm_lt_s, ↓cl_in, ↓cl_wi, ↓cl_has, ↓cl_isP, mL_le, lit_n, litL_n, mL_mI, mL_neg, mm_cl_s, mI_lt, mI_le, mI_eq, enc_at, enc_wr, enc_cp, mI_neg, mI_add, mI_sub, mI_mul, mI_ix, mm_ck_ok, mm_nz_ok, mm_bo_c, mm_bo_m0, mm_bo_m1, b01, Int.toNat_natCast, Int.reduceToNat, Int.reduceNeg, Int.reduceSub, Int.reduceAdd, Int.reduceMul, Int.reduceLT, Int.reduceLE, Int.reduceEq, ↓reduceIte, not_true, not_false_eq_true, not_true_eq_false, and_self, true_and, and_true, false_and, and_false, Decidable.not_not, stv1, stv2, stv3, stv4]
          repeat (first | rw [if_pos (by omega)] | rw [if_neg (by omega)])
          exact Like.mk rfl rfl r1
        · repeat (first | rw [if_pos (by omega)] | rw [if_neg (by omega)])
          exact Like.mk rfl rfl h
      · have c5 : ∃ j, j < n ∧ ¬ (32 ≤ B j ∧ B j ≤ 126) := by
          refine Classical.byContradiction fun hc9 => c4 fun i hi => ?_
          refine Classical.byContradiction fun h9 => hc9 ⟨i, hi, h9⟩
        rw [typM_no hB n NF (by omega) (by omega) c5]
        rw [show mI 0 = mI ((0 : Nat) : Int) from rfl, typX_no hB (by omega) n 0 NF (by omega) (by omega) (by obtain ⟨j, q1, q2⟩ := c5; exact ⟨j, Nat.zero_le _, q1, q2⟩)]
        exact Like.mk rfl rfl h
    · simp (implicitDefEqProofs := false) (maxSteps := 1000000) (disch := omega) only [c1, c2, c3, ↓mm_lt_s, ↓cl_in, ↓cl_wi, ↓cl_has, ↓cl_isP, mL_le, lit_n, litL_n, mL_mI, mL_neg, mm_cl_s, mI_lt, mI_le, mI_eq, enc_at, enc_wr, enc_cp, mI_neg, mI_add, mI_sub, mI_mul, mI_ix, mm_ck_ok, mm_nz_ok, mm_bo_c, mm_bo_m0, mm_bo_m1, b01, Int.toNat_natCast, Int.reduceToNat, Int.reduceNeg, Int.reduceSub, Int.reduceAdd, Int.reduceMul, Int.reduceLT, Int.reduceLE, Int.reduceEq, ↓reduceIte, not_true, not_false_eq_true, not_true_eq_false, and_self, true_and, and_true, false_and, and_false, Decidable.not_not, stv1, stv2, stv3, stv4]
      exact Like.mk rfl rfl h
