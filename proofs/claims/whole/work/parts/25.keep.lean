theorem put_s (k q : Nat) (hk : k ≠ q) (i v : Int) (σ : IM) (hi : I32 i) (hv : I32 v) (h1 : I32 (σ k 1)) (h0 : -1 ≤ σ k 0 ∧ σ k 0 ≤ 2) (h2 : 0 ≤ i) (h3 : i < σ k 1) (h4 : σ k 1 ≤ 24) : fX2_put k q (mI i) (mI v) (enc σ) = some (mI 0, enc (iw σ q i.toNat (if σ k 0 = 0 then (mI v).toInt8.toInt32.toInt else if σ k 0 = 1 then (mI v).toInt16.toInt32.toInt else v))) := by
  unfold fX2_put
  simp (implicitDefEqProofs := false) (maxSteps := 1000000) (disch := omega) only [↓mm_lt_s, ↓cl_in, ↓cl_wi, ↓cl_has, ↓cl_isP, mL_le, lit_n, litL_n, mL_mI, mL_neg, mm_cl_s, mI_lt, mI_le, mI_eq, enc_at, enc_wr, enc_cp, mI_neg, mI_add, mI_sub, mI_mul, mI_ix, mm_ck_ok, mm_nz_ok, mm_bo_c, mm_bo_m0, mm_bo_m1, b01, Int.toNat_natCast, Int.reduceToNat, Int.reduceNeg, Int.reduceSub, Int.reduceAdd, Int.reduceMul, Int.reduceLT, Int.reduceLE, Int.reduceEq, ↓reduceIte, not_true, not_false_eq_true, not_true_eq_false, and_self, true_and, and_true, false_and, and_false, Decidable.not_not, stv1, stv2, stv3, stv4]
  by_cases c1 : σ k 0 = 0
  · repeat (first | rw [if_pos (by omega)] | rw [if_neg (by omega)])
    rw [← enc_wr, mI_of]
  · by_cases c2 : σ k 0 = 1
    · repeat (first | rw [if_pos (by omega)] | rw [if_neg (by omega)])
      rw [← enc_wr, mI_of]
    · repeat (first | rw [if_pos (by omega)] | rw [if_neg (by omega)])
theorem shl24 (x : Int32) : (x <<< ((24 : Int32) &&& 31)) >>> ((24 : Int32) &&& 31) = x.toInt8.toInt32 := by
  apply Int32.toBitVec_inj.mp
  simp [Int32.toBitVec_shiftRight, Int32.toBitVec_shiftLeft]
  apply BitVec.eq_of_getLsbD_eq
  intro i hi
  simp [BitVec.getLsbD_sshiftRight, BitVec.getLsbD_signExtend, BitVec.msb_eq_getLsbD_last]
  by_cases h : i < 8
  · simp [h, hi, show 24 + i < 32 by omega, show ¬ 32 ≤ i by omega]
  · simp [h, hi, show ¬ 24 + i < 32 by omega, show ¬ 32 ≤ i by omega, BitVec.getElem_signExtend]
theorem shl16 (x : Int32) : (x <<< ((16 : Int32) &&& 31)) >>> ((16 : Int32) &&& 31) = x.toInt16.toInt32 := by
  apply Int32.toBitVec_inj.mp
  simp [Int32.toBitVec_shiftRight, Int32.toBitVec_shiftLeft]
  apply BitVec.eq_of_getLsbD_eq
  intro i hi
  simp [BitVec.getLsbD_sshiftRight, BitVec.getLsbD_signExtend, BitVec.msb_eq_getLsbD_last]
  by_cases h : i < 16
  · simp [h, hi, show 16 + i < 32 by omega, show ¬ 32 ≤ i by omega]
  · simp [h, hi, show ¬ 16 + i < 32 by omega, show ¬ 32 ≤ i by omega, BitVec.getElem_signExtend]
/-- a number as a lane has it -/
def lan (l v : Int) : Int := if l = 0 then (mI v).toInt8.toInt32.toInt else if l = 1 then (mI v).toInt16.toInt32.toInt else v
theorem lan_rng (l v : Int) (hv : I32 v) : I32 (lan l v) := by
  unfold lan
  split
  · exact mI_rng _
  · split
    · exact mI_rng _
    · exact hv
theorem asLane_s (l v : Int) (hl : I32 l) (ν : Mm) : fX7_asLane (mI l) (mI v) ν = some (mI (lan l v), ν) := by
  unfold fX7_asLane lan
  simp only [mm_lt_s, shl24, shl16]
  simp (implicitDefEqProofs := false) (maxSteps := 1000000) (disch := omega) only [↓mm_lt_s, ↓cl_in, ↓cl_wi, ↓cl_has, ↓cl_isP, mL_le, lit_n, litL_n, mL_mI, mL_neg, mm_cl_s, mI_lt, mI_le, mI_eq, enc_at, enc_wr, enc_cp, mI_neg, mI_add, mI_sub, mI_mul, mI_ix, mm_ck_ok, mm_nz_ok, mm_bo_c, mm_bo_m0, mm_bo_m1, b01, Int.toNat_natCast, Int.reduceToNat, Int.reduceNeg, Int.reduceSub, Int.reduceAdd, Int.reduceMul, Int.reduceLT, Int.reduceLE, Int.reduceEq, ↓reduceIte, not_true, not_false_eq_true, not_true_eq_false, and_self, true_and, and_true, false_and, and_false, Decidable.not_not, stv1, stv2, stv3, stv4]
  by_cases c1 : l = 0
  · repeat (first | rw [if_pos (by omega)] | rw [if_neg (by omega)])
    rw [mI_of]
  · by_cases c2 : l = 1
    · repeat (first | rw [if_pos (by omega)] | rw [if_neg (by omega)])
      rw [mI_of]
    · repeat (first | rw [if_pos (by omega)] | rw [if_neg (by omega)])
theorem rr {σ τ : IM} (h : RX σ τ) (a b c n : Int) (ha : I32 a) (hb : I32 b) (hc : I32 c) (hn : 0 ≤ n ∧ n ≤ 20) : ∃ r : Int, fX6_refusedRow (mI a) (mI b) (mI c) (mI n) (enc σ) = some (mI r, enc σ) ∧ (-20 ≤ r ∧ r ≤ 0) ∧ (¬ ((0 ≤ a ∧ a ≤ 3) ∧ 0 ≤ b ∧ b ≤ 2) → r = -1) ∧ ((0 ≤ a ∧ a ≤ 3) ∧ (0 ≤ b ∧ b ≤ 2) → fX7_lacksRow (mI a) (mI b) (mI c) (mI n) (enc τ) = some (mI r, enc τ)) ∧ (r = 0 → ∃ s : Nat, s < 4 ∧ a = s ∧ τ 25 s = b ∧ 0 ≤ b ∧ b ≤ 2 ∧ 0 ≤ c ∧ c + n ≤ τ 26 s) := by
  by_cases c0 : (0 ≤ a ∧ a ≤ 3) ∧ 0 ≤ b ∧ b ≤ 2
  · obtain ⟨s, rfl⟩ := Int.eq_ofNat_of_zero_le c0.1.1
    have hs : s < 4 := by omega
    obtain ⟨b1, b2, b3, b4⟩ := h.2.2.2 s hs
    by_cases c1 : τ 25 s = -1
    · refine ⟨-11, ?_, by omega, by omega, fun _ => ?_, by omega⟩
      · unfold fX6_refusedRow
        simp (implicitDefEqProofs := false) (maxSteps := 1000000) (disch := omega) only [b1, c1, ↓mm_lt_s, ↓cl_in, ↓cl_wi, ↓cl_has, ↓cl_isP, mL_le, lit_n, litL_n, mL_mI, mL_neg, mm_cl_s, mI_lt, mI_le, mI_eq, enc_at, enc_wr, enc_cp, mI_neg, mI_add, mI_sub, mI_mul, mI_ix, mm_ck_ok, mm_nz_ok, mm_bo_c, mm_bo_m0, mm_bo_m1, b01, Int.toNat_natCast, Int.reduceToNat, Int.reduceNeg, Int.reduceSub, Int.reduceAdd, Int.reduceMul, Int.reduceLT, Int.reduceLE, Int.reduceEq, ↓reduceIte, not_true, not_false_eq_true, not_true_eq_false, and_self, true_and, and_true, false_and, and_false, Decidable.not_not, stv1, stv2, stv3, stv4]
        repeat (first | rw [if_pos (by omega)] | rw [if_neg (by omega)])
      · unfold fX7_lacksRow
        simp (implicitDefEqProofs := false) (maxSteps := 1000000) (disch := omega) only [c1, ↓mm_lt_s, ↓cl_in, ↓cl_wi, ↓cl_has, ↓cl_isP, mL_le, lit_n, litL_n, mL_mI, mL_neg, mm_cl_s, mI_lt, mI_le, mI_eq, enc_at, enc_wr, enc_cp, mI_neg, mI_add, mI_sub, mI_mul, mI_ix, mm_ck_ok, mm_nz_ok, mm_bo_c, mm_bo_m0, mm_bo_m1, b01, Int.toNat_natCast, Int.reduceToNat, Int.reduceNeg, Int.reduceSub, Int.reduceAdd, Int.reduceMul, Int.reduceLT, Int.reduceLE, Int.reduceEq, ↓reduceIte, not_true, not_false_eq_true, not_true_eq_false, and_self, true_and, and_true, false_and, and_false, Decidable.not_not, stv1, stv2, stv3, stv4]
        repeat (first | rw [if_pos (by omega)] | rw [if_neg (by omega)])
    · obtain ⟨⟨d1, d2, d3⟩, d4⟩ := b4 (by omega)
      by_cases c2 : τ 25 s = b
      · by_cases c3 : 0 ≤ c ∧ c + n ≤ τ 26 s
        · refine ⟨0, ?_, by omega, by omega, fun _ => ?_, fun _ => ⟨s, hs, rfl, c2, by omega⟩⟩
          · unfold fX6_refusedRow
            simp (implicitDefEqProofs := false) (maxSteps := 1000000) (disch := omega) only [b1, d1, ↓mm_lt_s, ↓cl_in, ↓cl_wi, ↓cl_has, ↓cl_isP, mL_le, lit_n, litL_n, mL_mI, mL_neg, mm_cl_s, mI_lt, mI_le, mI_eq, enc_at, enc_wr, enc_cp, mI_neg, mI_add, mI_sub, mI_mul, mI_ix, mm_ck_ok, mm_nz_ok, mm_bo_c, mm_bo_m0, mm_bo_m1, b01, Int.toNat_natCast, Int.reduceToNat, Int.reduceNeg, Int.reduceSub, Int.reduceAdd, Int.reduceMul, Int.reduceLT, Int.reduceLE, Int.reduceEq, ↓reduceIte, not_true, not_false_eq_true, not_true_eq_false, and_self, true_and, and_true, false_and, and_false, Decidable.not_not, stv1, stv2, stv3, stv4]
            repeat (first | rw [if_pos (by omega)] | rw [if_neg (by omega)])
          · unfold fX7_lacksRow
            simp (implicitDefEqProofs := false) (maxSteps := 1000000) (disch := omega) only [↓mm_lt_s, ↓cl_in, ↓cl_wi, ↓cl_has, ↓cl_isP, mL_le, lit_n, litL_n, mL_mI, mL_neg, mm_cl_s, mI_lt, mI_le, mI_eq, enc_at, enc_wr, enc_cp, mI_neg, mI_add, mI_sub, mI_mul, mI_ix, mm_ck_ok, mm_nz_ok, mm_bo_c, mm_bo_m0, mm_bo_m1, b01, Int.toNat_natCast, Int.reduceToNat, Int.reduceNeg, Int.reduceSub, Int.reduceAdd, Int.reduceMul, Int.reduceLT, Int.reduceLE, Int.reduceEq, ↓reduceIte, not_true, not_false_eq_true, not_true_eq_false, and_self, true_and, and_true, false_and, and_false, Decidable.not_not, stv1, stv2, stv3, stv4]
            repeat (first | rw [if_pos (by omega)] | rw [if_neg (by omega)])
        · refine ⟨-13, ?_, by omega, by omega, fun _ => ?_, by omega⟩
          · unfold fX6_refusedRow
            simp (implicitDefEqProofs := false) (maxSteps := 1000000) (disch := omega) only [b1, d1, ↓mm_lt_s, ↓cl_in, ↓cl_wi, ↓cl_has, ↓cl_isP, mL_le, lit_n, litL_n, mL_mI, mL_neg, mm_cl_s, mI_lt, mI_le, mI_eq, enc_at, enc_wr, enc_cp, mI_neg, mI_add, mI_sub, mI_mul, mI_ix, mm_ck_ok, mm_nz_ok, mm_bo_c, mm_bo_m0, mm_bo_m1, b01, Int.toNat_natCast, Int.reduceToNat, Int.reduceNeg, Int.reduceSub, Int.reduceAdd, Int.reduceMul, Int.reduceLT, Int.reduceLE, Int.reduceEq, ↓reduceIte, not_true, not_false_eq_true, not_true_eq_false, and_self, true_and, and_true, false_and, and_false, Decidable.not_not, stv1, stv2, stv3, stv4]
            by_cases c4 : c < 0
            · repeat (first | rw [if_pos (by omega)] | rw [if_neg (by omega)])
            · repeat (first | rw [if_pos (by omega)] | rw [if_neg (by omega)])
          · unfold fX7_lacksRow
            simp (implicitDefEqProofs := false) (maxSteps := 1000000) (disch := omega) only [↓mm_lt_s, ↓cl_in, ↓cl_wi, ↓cl_has, ↓cl_isP, mL_le, lit_n, litL_n, mL_mI, mL_neg, mm_cl_s, mI_lt, mI_le, mI_eq, enc_at, enc_wr, enc_cp, mI_neg, mI_add, mI_sub, mI_mul, mI_ix, mm_ck_ok, mm_nz_ok, mm_bo_c, mm_bo_m0, mm_bo_m1, b01, Int.toNat_natCast, Int.reduceToNat, Int.reduceNeg, Int.reduceSub, Int.reduceAdd, Int.reduceMul, Int.reduceLT, Int.reduceLE, Int.reduceEq, ↓reduceIte, not_true, not_false_eq_true, not_true_eq_false, and_self, true_and, and_true, false_and, and_false, Decidable.not_not, stv1, stv2, stv3, stv4]
            repeat (first | rw [if_pos (by omega)] | rw [if_neg (by omega)])
      · refine ⟨-12, ?_, by omega, by omega, fun _ => ?_, by omega⟩
        · unfold fX6_refusedRow
          simp (implicitDefEqProofs := false) (maxSteps := 1000000) (disch := omega) only [b1, ↓mm_lt_s, ↓cl_in, ↓cl_wi, ↓cl_has, ↓cl_isP, mL_le, lit_n, litL_n, mL_mI, mL_neg, mm_cl_s, mI_lt, mI_le, mI_eq, enc_at, enc_wr, enc_cp, mI_neg, mI_add, mI_sub, mI_mul, mI_ix, mm_ck_ok, mm_nz_ok, mm_bo_c, mm_bo_m0, mm_bo_m1, b01, Int.toNat_natCast, Int.reduceToNat, Int.reduceNeg, Int.reduceSub, Int.reduceAdd, Int.reduceMul, Int.reduceLT, Int.reduceLE, Int.reduceEq, ↓reduceIte, not_true, not_false_eq_true, not_true_eq_false, and_self, true_and, and_true, false_and, and_false, Decidable.not_not, stv1, stv2, stv3, stv4]
          repeat (first | rw [if_pos (by omega)] | rw [if_neg (by omega)])
        · unfold fX7_lacksRow
          simp (implicitDefEqProofs := false) (maxSteps := 1000000) (disch := omega) only [↓mm_lt_s, ↓cl_in, ↓cl_wi, ↓cl_has, ↓cl_isP, mL_le, lit_n, litL_n, mL_mI, mL_neg, mm_cl_s, mI_lt, mI_le, mI_eq, enc_at, enc_wr, enc_cp, mI_neg, mI_add, mI_sub, mI_mul, mI_ix, mm_ck_ok, mm_nz_ok, mm_bo_c, mm_bo_m0, mm_bo_m1, b01, Int.toNat_natCast, Int.reduceToNat, Int.reduceNeg, Int.reduceSub, Int.reduceAdd, Int.reduceMul, Int.reduceLT, Int.reduceLE, Int.reduceEq, ↓reduceIte, not_true, not_false_eq_true, not_true_eq_false, and_self, true_and, and_true, false_and, and_false, Decidable.not_not, stv1, stv2, stv3, stv4]
          repeat (first | rw [if_pos (by omega)] | rw [if_neg (by omega)])
  · refine ⟨-1, ?_, by omega, fun _ => rfl, fun q => absurd q c0, by omega⟩
    unfold fX6_refusedRow
    by_cases c1 : 0 ≤ a ∧ a < 4
    · by_cases c2 : b < 0
      · simp (implicitDefEqProofs := false) (maxSteps := 1000000) (disch := omega) only [c1, c2, ↓mm_lt_s, ↓cl_in, ↓cl_wi, ↓cl_has, ↓cl_isP, mL_le, lit_n, litL_n, mL_mI, mL_neg, mm_cl_s, mI_lt, mI_le, mI_eq, enc_at, enc_wr, enc_cp, mI_neg, mI_add, mI_sub, mI_mul, mI_ix, mm_ck_ok, mm_nz_ok, mm_bo_c, mm_bo_m0, mm_bo_m1, b01, Int.toNat_natCast, Int.reduceToNat, Int.reduceNeg, Int.reduceSub, Int.reduceAdd, Int.reduceMul, Int.reduceLT, Int.reduceLE, Int.reduceEq, ↓reduceIte, not_true, not_false_eq_true, not_true_eq_false, and_self, true_and, and_true, false_and, and_false, Decidable.not_not, stv1, stv2, stv3, stv4]
        repeat (first | rw [if_pos (by omega)] | rw [if_neg (by omega)])
      · have c3 : ¬ b ≤ 2 := by omega
        simp (implicitDefEqProofs := false) (maxSteps := 1000000) (disch := omega) only [c1, c2, c3, ↓mm_lt_s, ↓cl_in, ↓cl_wi, ↓cl_has, ↓cl_isP, mL_le, lit_n, litL_n, mL_mI, mL_neg, mm_cl_s, mI_lt, mI_le, mI_eq, enc_at, enc_wr, enc_cp, mI_neg, mI_add, mI_sub, mI_mul, mI_ix, mm_ck_ok, mm_nz_ok, mm_bo_c, mm_bo_m0, mm_bo_m1, b01, Int.toNat_natCast, Int.reduceToNat, Int.reduceNeg, Int.reduceSub, Int.reduceAdd, Int.reduceMul, Int.reduceLT, Int.reduceLE, Int.reduceEq, ↓reduceIte, not_true, not_false_eq_true, not_true_eq_false, and_self, true_and, and_true, false_and, and_false, Decidable.not_not, stv1, stv2, stv3, stv4]
        repeat (first | rw [if_pos (by omega)] | rw [if_neg (by omega)])
    · simp (implicitDefEqProofs := false) (maxSteps := 1000000) (disch := omega) only [c1, ↓mm_lt_s, ↓cl_in, ↓cl_wi, ↓cl_has, ↓cl_isP, mL_le, lit_n, litL_n, mL_mI, mL_neg, mm_cl_s, mI_lt, mI_le, mI_eq, enc_at, enc_wr, enc_cp, mI_neg, mI_add, mI_sub, mI_mul, mI_ix, mm_ck_ok, mm_nz_ok, mm_bo_c, mm_bo_m0, mm_bo_m1, b01, Int.toNat_natCast, Int.reduceToNat, Int.reduceNeg, Int.reduceSub, Int.reduceAdd, Int.reduceMul, Int.reduceLT, Int.reduceLE, Int.reduceEq, ↓reduceIte, not_true, not_false_eq_true, not_true_eq_false, and_self, true_and, and_true, false_and, and_false, Decidable.not_not, stv1, stv2, stv3, stv4]
theorem RX.item {σ τ : IM} (h : RX σ τ) (s i : Nat) (hs : s < 4) (hi : i < 24) (v : Int) (hv : I32 v) : RX (iw σ (53 + s) i v) (iw τ 27 (24 * s + i) v) := by
  refine h.sheets (fun k j hk => iw_ne (by omega)) (fun k j hk => iw_ne (by omega)) (fun t ht => ?_)
  obtain ⟨b1, b2, b3, b4⟩ := h.2.2.2 t ht
  refine ⟨?_, ?_, ?_, fun hq => ?_⟩
  · rw [iw_ne (by omega), iw_ne (by omega)]; exact b1
  · rw [iw_ne (by omega)]; exact b2
  · rw [iw_ne (by omega)]; exact b3
  · rw [iw_ne (by omega)] at hq
    obtain ⟨d1, d4⟩ := b4 hq
    refine ⟨?_, fun j hj => ?_⟩
    · rw [iw_ne (by omega), iw_ne (by omega)]; exact d1
    · by_cases e : t = s ∧ j = i
      · obtain ⟨rfl, rfl⟩ := e
        rw [iw_eq rfl rfl, iw_eq rfl rfl]
        exact ⟨rfl, hv⟩
      · rw [iw_ne (by omega), iw_ne (by omega)]; exact d4 j hj
theorem putR {σ τ : IM} (h : RX σ τ) (s i : Nat) (hs : s < 4) (v : Int) (hv : I32 v) (h1 : 0 ≤ τ 25 s) (h2 : (i : Int) < τ 26 s) : fX2_put (49 + s) (53 + s) (mI i) (mI v) (enc σ) = some (mI 0, enc (iw σ (53 + s) i (lan (τ 25 s) v))) := by
  obtain ⟨b1, b2, b3, b4⟩ := h.2.2.2 s hs
  obtain ⟨⟨d1, d2, d3⟩, d4⟩ := b4 h1
  rw [put_s (49 + s) (53 + s) (by omega) i v σ (by omega) hv (by omega) (by omega) (by omega) (by omega) (by omega), b1]
  rfl
theorem q_item (a b c d : Int) (ha : I32 a) (hb : I32 b) (hc : I32 c) (hd : I32 d) {σ τ : IM} (h : RX σ τ) : Like (fX6_item (mI a) (mI b) (mI c) (mI d) (enc σ)) (fX7_item (mI a) (mI b) (mI c) (mI d) (enc τ)) := by
  obtain ⟨r, r1, r2, r3, r4, r5⟩ := rr h a b c 1 ha hb hc (by omega)
  unfold fX6_item fX7_item
  rw [show (1 : Int32) = mI 1 from rfl, r1, isSheet_s a b ha hb]
  simp (implicitDefEqProofs := false) (maxSteps := 1000000) (disch := omega) only [↓mm_lt_s, ↓cl_in, ↓cl_wi, ↓cl_has, ↓cl_isP, mL_le, lit_n, litL_n, mL_mI, mL_neg, mm_cl_s, mI_lt, mI_le, mI_eq, enc_at, enc_wr, enc_cp, mI_neg, mI_add, mI_sub, mI_mul, mI_ix, mm_ck_ok, mm_nz_ok, mm_bo_c, mm_bo_m0, mm_bo_m1, b01, Int.toNat_natCast, Int.reduceToNat, Int.reduceNeg, Int.reduceSub, Int.reduceAdd, Int.reduceMul, Int.reduceLT, Int.reduceLE, Int.reduceEq, ↓reduceIte, not_true, not_false_eq_true, not_true_eq_false, and_self, true_and, and_true, false_and, and_false, Decidable.not_not, stv1, stv2, stv3, stv4]
  by_cases c0 : (0 ≤ a ∧ a ≤ 3) ∧ 0 ≤ b ∧ b ≤ 2
  · rw [r4 c0]
    simp (implicitDefEqProofs := false) (maxSteps := 1000000) (disch := omega) only [↓mm_lt_s, ↓cl_in, ↓cl_wi, ↓cl_has, ↓cl_isP, mL_le, lit_n, litL_n, mL_mI, mL_neg, mm_cl_s, mI_lt, mI_le, mI_eq, enc_at, enc_wr, enc_cp, mI_neg, mI_add, mI_sub, mI_mul, mI_ix, mm_ck_ok, mm_nz_ok, mm_bo_c, mm_bo_m0, mm_bo_m1, b01, Int.toNat_natCast, Int.reduceToNat, Int.reduceNeg, Int.reduceSub, Int.reduceAdd, Int.reduceMul, Int.reduceLT, Int.reduceLE, Int.reduceEq, ↓reduceIte, not_true, not_false_eq_true, not_true_eq_false, and_self, true_and, and_true, false_and, and_false, Decidable.not_not, stv1, stv2, stv3, stv4]
    by_cases c1 : r = 0
    · obtain ⟨s, hs, rfl, e1, e2, e3, e4, e5⟩ := r5 c1
      obtain ⟨i, rfl⟩ := Int.eq_ofNat_of_zero_le e4
      obtain ⟨b1, b2, b3, b4⟩ := h.2.2.2 s hs
      obtain ⟨⟨d1, d2, d3⟩, d4⟩ := b4 (by omega)
      have e6 : (24 * (s : Int) + (i : Int)).toNat = 24 * s + i := by omega
      rw [asLane_s b d hb]
      simp (implicitDefEqProofs := false) (maxSteps := 1000000) (disch := omega) only [e6, ↓mm_lt_s, ↓cl_in, ↓cl_wi, ↓cl_has, ↓cl_isP, mL_le, lit_n, litL_n, mL_mI, mL_neg, mm_cl_s, mI_lt, mI_le, mI_eq, enc_at, enc_wr, enc_cp, mI_neg, mI_add, mI_sub, mI_mul, mI_ix, mm_ck_ok, mm_nz_ok, mm_bo_c, mm_bo_m0, mm_bo_m1, b01, Int.toNat_natCast, Int.reduceToNat, Int.reduceNeg, Int.reduceSub, Int.reduceAdd, Int.reduceMul, Int.reduceLT, Int.reduceLE, Int.reduceEq, ↓reduceIte, not_true, not_false_eq_true, not_true_eq_false, and_self, true_and, and_true, false_and, and_false, Decidable.not_not, stv1, stv2, stv3, stv4]
      rw [putR h s i hs d hd (by omega) (by omega), e1]
      repeat (first | rw [if_pos (by omega)] | rw [if_neg (by omega)])
      simp (implicitDefEqProofs := false) (maxSteps := 1000000) (disch := omega) only [↓mm_lt_s, ↓cl_in, ↓cl_wi, ↓cl_has, ↓cl_isP, mL_le, lit_n, litL_n, mL_mI, mL_neg, mm_cl_s, mI_lt, mI_le, mI_eq, enc_at, enc_wr, enc_cp, mI_neg, mI_add, mI_sub, mI_mul, mI_ix, mm_ck_ok, mm_nz_ok, mm_bo_c, mm_bo_m0, mm_bo_m1, b01, Int.toNat_natCast, Int.reduceToNat, Int.reduceNeg, Int.reduceSub, Int.reduceAdd, Int.reduceMul, Int.reduceLT, Int.reduceLE, Int.reduceEq, ↓reduceIte, not_true, not_false_eq_true, not_true_eq_false, and_self, true_and, and_true, false_and, and_false, Decidable.not_not, stv1, stv2, stv3, stv4]
      exact Like.mk rfl rfl (h.item s i hs (by omega) _ (lan_rng b d hd))
    · repeat (first | rw [if_pos (by omega)] | rw [if_neg (by omega)])
      exact Like.mk rfl rfl h
  · have e1 := r3 c0
    subst e1
    repeat (first | rw [if_pos (by omega)] | rw [if_neg (by omega)])
    exact Like.mk rfl rfl h
/-! images -/
theorem imgM_L28 {K : Mm → Aa} {z : Int32 → Mm → Aa} : ∀ (d i n : Nat) (τ : IM), i + d = 6 → d < n → mm_lk z (fX7_image_L28 K) n (mI i) (enc τ) = K (enc (ifl τ 24 i 6 (τ 2)))
  | d, i, 0, τ, _, h => absurd h (Nat.not_lt_zero d)
  | 0, i, n + 1, τ, h, _ => by
    rw [mm_lk_s, fX7_image_L28]
    simp (implicitDefEqProofs := false) (maxSteps := 1000000) (disch := omega) only [↓mm_lt_s, ↓cl_in, ↓cl_wi, ↓cl_has, ↓cl_isP, mL_le, lit_n, litL_n, mL_mI, mL_neg, mm_cl_s, mI_lt, mI_le, mI_eq, enc_at, enc_wr, enc_cp, mI_neg, mI_add, mI_sub, mI_mul, mI_ix, mm_ck_ok, mm_nz_ok, mm_bo_c, mm_bo_m0, mm_bo_m1, b01, Int.toNat_natCast, Int.reduceToNat, Int.reduceNeg, Int.reduceSub, Int.reduceAdd, Int.reduceMul, Int.reduceLT, Int.reduceLE, Int.reduceEq, ↓reduceIte, not_true, not_false_eq_true, not_true_eq_false, and_self, true_and, and_true, false_and, and_false, Decidable.not_not, stv1, stv2, stv3, stv4]
    repeat (first | rw [if_pos (by omega)] | rw [if_neg (by omega)])
    rw [ifl_nil (by omega)]
  | d + 1, i, n + 1, τ, h, h2 => by
    rw [mm_lk_s, fX7_image_L28]
    simp (implicitDefEqProofs := false) (maxSteps := 1000000) (disch := omega) only [cast_s, ↓mm_lt_s, ↓cl_in, ↓cl_wi, ↓cl_has, ↓cl_isP, mL_le, lit_n, litL_n, mL_mI, mL_neg, mm_cl_s, mI_lt, mI_le, mI_eq, enc_at, enc_wr, enc_cp, mI_neg, mI_add, mI_sub, mI_mul, mI_ix, mm_ck_ok, mm_nz_ok, mm_bo_c, mm_bo_m0, mm_bo_m1, b01, Int.toNat_natCast, Int.reduceToNat, Int.reduceNeg, Int.reduceSub, Int.reduceAdd, Int.reduceMul, Int.reduceLT, Int.reduceLE, Int.reduceEq, ↓reduceIte, not_true, not_false_eq_true, not_true_eq_false, and_self, true_and, and_true, false_and, and_false, Decidable.not_not, stv1, stv2, stv3, stv4]
    repeat (first | rw [if_pos (by omega)] | rw [if_neg (by omega)])
    rw [imgM_L28 d (i + 1) n _ (by omega) (by omega), show iw τ 24 i (τ 2 i) 2 = τ 2 from funext fun b => iw_ne (by omega), ifl_step (f := τ 2) (by omega) rfl]
theorem imgM_L2 {K : Mm → Aa} {z : Int32 → Mm → Aa} : ∀ (d i n : Nat) (τ : IM), i + d = 70 → d < n → mm_lk z (fX7_image_L2 K) n (mI i) (enc τ) = K (enc (ifl τ 23 i 70 (τ 1)))
  | d, i, 0, τ, _, h => absurd h (Nat.not_lt_zero d)
  | 0, i, n + 1, τ, h, _ => by
    rw [mm_lk_s, fX7_image_L2]
    simp (implicitDefEqProofs := false) (maxSteps := 1000000) (disch := omega) only [↓mm_lt_s, ↓cl_in, ↓cl_wi, ↓cl_has, ↓cl_isP, mL_le, lit_n, litL_n, mL_mI, mL_neg, mm_cl_s, mI_lt, mI_le, mI_eq, enc_at, enc_wr, enc_cp, mI_neg, mI_add, mI_sub, mI_mul, mI_ix, mm_ck_ok, mm_nz_ok, mm_bo_c, mm_bo_m0, mm_bo_m1, b01, Int.toNat_natCast, Int.reduceToNat, Int.reduceNeg, Int.reduceSub, Int.reduceAdd, Int.reduceMul, Int.reduceLT, Int.reduceLE, Int.reduceEq, ↓reduceIte, not_true, not_false_eq_true, not_true_eq_false, and_self, true_and, and_true, false_and, and_false, Decidable.not_not, stv1, stv2, stv3, stv4]
    repeat (first | rw [if_pos (by omega)] | rw [if_neg (by omega)])
    rw [ifl_nil (by omega)]
  | d + 1, i, n + 1, τ, h, h2 => by
    rw [mm_lk_s, fX7_image_L2]
    simp (implicitDefEqProofs := false) (maxSteps := 1000000) (disch := omega) only [cast_s, ↓mm_lt_s, ↓cl_in, ↓cl_wi, ↓cl_has, ↓cl_isP, mL_le, lit_n, litL_n, mL_mI, mL_neg, mm_cl_s, mI_lt, mI_le, mI_eq, enc_at, enc_wr, enc_cp, mI_neg, mI_add, mI_sub, mI_mul, mI_ix, mm_ck_ok, mm_nz_ok, mm_bo_c, mm_bo_m0, mm_bo_m1, b01, Int.toNat_natCast, Int.reduceToNat, Int.reduceNeg, Int.reduceSub, Int.reduceAdd, Int.reduceMul, Int.reduceLT, Int.reduceLE, Int.reduceEq, ↓reduceIte, not_true, not_false_eq_true, not_true_eq_false, and_self, true_and, and_true, false_and, and_false, Decidable.not_not, stv1, stv2, stv3, stv4]
    repeat (first | rw [if_pos (by omega)] | rw [if_neg (by omega)])
    rw [imgM_L2 d (i + 1) n _ (by omega) (by omega), show iw τ 23 i (τ 1 i) 1 = τ 1 from funext fun b => iw_ne (by omega), ifl_step (f := τ 1) (by omega) rfl]
theorem resM_L38 {K : Mm → Aa} {z : Int32 → Mm → Aa} : ∀ (d i n : Nat) (τ : IM), i + d = 6 → d < n → mm_lk z (fX7_restore_L38 K) n (mI i) (enc τ) = K (enc (ifl τ 2 i 6 (τ 24)))
  | d, i, 0, τ, _, h => absurd h (Nat.not_lt_zero d)
  | 0, i, n + 1, τ, h, _ => by
    rw [mm_lk_s, fX7_restore_L38]
    simp (implicitDefEqProofs := false) (maxSteps := 1000000) (disch := omega) only [↓mm_lt_s, ↓cl_in, ↓cl_wi, ↓cl_has, ↓cl_isP, mL_le, lit_n, litL_n, mL_mI, mL_neg, mm_cl_s, mI_lt, mI_le, mI_eq, enc_at, enc_wr, enc_cp, mI_neg, mI_add, mI_sub, mI_mul, mI_ix, mm_ck_ok, mm_nz_ok, mm_bo_c, mm_bo_m0, mm_bo_m1, b01, Int.toNat_natCast, Int.reduceToNat, Int.reduceNeg, Int.reduceSub, Int.reduceAdd, Int.reduceMul, Int.reduceLT, Int.reduceLE, Int.reduceEq, ↓reduceIte, not_true, not_false_eq_true, not_true_eq_false, and_self, true_and, and_true, false_and, and_false, Decidable.not_not, stv1, stv2, stv3, stv4]
    repeat (first | rw [if_pos (by omega)] | rw [if_neg (by omega)])
    rw [ifl_nil (by omega)]
  | d + 1, i, n + 1, τ, h, h2 => by
    rw [mm_lk_s, fX7_restore_L38]
    simp (implicitDefEqProofs := false) (maxSteps := 1000000) (disch := omega) only [cast_s, ↓mm_lt_s, ↓cl_in, ↓cl_wi, ↓cl_has, ↓cl_isP, mL_le, lit_n, litL_n, mL_mI, mL_neg, mm_cl_s, mI_lt, mI_le, mI_eq, enc_at, enc_wr, enc_cp, mI_neg, mI_add, mI_sub, mI_mul, mI_ix, mm_ck_ok, mm_nz_ok, mm_bo_c, mm_bo_m0, mm_bo_m1, b01, Int.toNat_natCast, Int.reduceToNat, Int.reduceNeg, Int.reduceSub, Int.reduceAdd, Int.reduceMul, Int.reduceLT, Int.reduceLE, Int.reduceEq, ↓reduceIte, not_true, not_false_eq_true, not_true_eq_false, and_self, true_and, and_true, false_and, and_false, Decidable.not_not, stv1, stv2, stv3, stv4]
    repeat (first | rw [if_pos (by omega)] | rw [if_neg (by omega)])
    rw [resM_L38 d (i + 1) n _ (by omega) (by omega), show iw τ 2 i (τ 24 i) 24 = τ 24 from funext fun b => iw_ne (by omega), ifl_step (f := τ 24) (by omega) rfl]
theorem resM_L12 {K : Mm → Aa} {z : Int32 → Mm → Aa} : ∀ (d i n : Nat) (τ : IM), i + d = 70 → d < n → mm_lk z (fX7_restore_L12 K) n (mI i) (enc τ) = K (enc (ifl τ 1 i 70 (τ 23)))
  | d, i, 0, τ, _, h => absurd h (Nat.not_lt_zero d)
  | 0, i, n + 1, τ, h, _ => by
    rw [mm_lk_s, fX7_restore_L12]
    simp (implicitDefEqProofs := false) (maxSteps := 1000000) (disch := omega) only [↓mm_lt_s, ↓cl_in, ↓cl_wi, ↓cl_has, ↓cl_isP, mL_le, lit_n, litL_n, mL_mI, mL_neg, mm_cl_s, mI_lt, mI_le, mI_eq, enc_at, enc_wr, enc_cp, mI_neg, mI_add, mI_sub, mI_mul, mI_ix, mm_ck_ok, mm_nz_ok, mm_bo_c, mm_bo_m0, mm_bo_m1, b01, Int.toNat_natCast, Int.reduceToNat, Int.reduceNeg, Int.reduceSub, Int.reduceAdd, Int.reduceMul, Int.reduceLT, Int.reduceLE, Int.reduceEq, ↓reduceIte, not_true, not_false_eq_true, not_true_eq_false, and_self, true_and, and_true, false_and, and_false, Decidable.not_not, stv1, stv2, stv3, stv4]
    repeat (first | rw [if_pos (by omega)] | rw [if_neg (by omega)])
    rw [ifl_nil (by omega)]
  | d + 1, i, n + 1, τ, h, h2 => by
    rw [mm_lk_s, fX7_restore_L12]
    simp (implicitDefEqProofs := false) (maxSteps := 1000000) (disch := omega) only [cast_s, ↓mm_lt_s, ↓cl_in, ↓cl_wi, ↓cl_has, ↓cl_isP, mL_le, lit_n, litL_n, mL_mI, mL_neg, mm_cl_s, mI_lt, mI_le, mI_eq, enc_at, enc_wr, enc_cp, mI_neg, mI_add, mI_sub, mI_mul, mI_ix, mm_ck_ok, mm_nz_ok, mm_bo_c, mm_bo_m0, mm_bo_m1, b01, Int.toNat_natCast, Int.reduceToNat, Int.reduceNeg, Int.reduceSub, Int.reduceAdd, Int.reduceMul, Int.reduceLT, Int.reduceLE, Int.reduceEq, ↓reduceIte, not_true, not_false_eq_true, not_true_eq_false, and_self, true_and, and_true, false_and, and_false, Decidable.not_not, stv1, stv2, stv3, stv4]
    repeat (first | rw [if_pos (by omega)] | rw [if_neg (by omega)])
    rw [resM_L12 d (i + 1) n _ (by omega) (by omega), show iw τ 1 i (τ 23 i) 23 = τ 23 from funext fun b => iw_ne (by omega), ifl_step (f := τ 23) (by omega) rfl]
/-- rows q0 + i .. become those at q1 + i .. -/
def irow (σ : IM) (q0 q1 lo hi : Nat) : IM := fun a b => if (q0 + lo ≤ a ∧ a < q0 + hi) ∧ b < 7 then σ (q1 + (a - q0)) b else σ a b
theorem mm_ac_ok {sp dp n : Int} {n0 n1 : Nat} {E : Aa} (h1 : 0 ≤ sp) (h2 : 0 ≤ dp) (h3 : 0 ≤ n) (h4 : sp + n ≤ (n0 : Int)) (h5 : dp + n ≤ (n1 : Int)) (h6 : (n0 : Int) < 2147483648) (h7 : (n1 : Int) < 2147483648) : mm_ac (mI sp) (mI dp) (mI n) n0 n1 E = E := by
  unfold mm_ac
  rw [if_neg]
  rw [show (0 : Int32) = mI 0 from rfl, mI_lt (by omega) (by omega) (by omega) (by omega), mI_lt (by omega) (by omega) (by omega) (by omega), mI_lt (by omega) (by omega) (by omega) (by omega), mI_ix h1 (by omega), mI_ix h2 (by omega), mI_ix h3 (by omega)]
  omega
theorem irow_step {σ : IM} {q0 q1 i hi : Nat} (h : i < hi) (ha : hi = 10) (hb : q0 + 10 ≤ q1 ∨ q1 + 10 ≤ q0) : irow (icp σ (q1 + i) (q0 + i) 0 0 7) q0 q1 (i + 1) hi = irow σ q0 q1 i hi := by
  subst ha
  funext a b
  unfold irow icp
  by_cases e : a = q0 + i ∧ b < 7
  · obtain ⟨rfl, hb7⟩ := e
    rw [if_neg (by omega), if_pos (by omega), if_pos (by omega)]
    rw [show q1 + (q0 + i - q0) = q1 + i by omega, show 0 + (b - 0) = b by omega]
  · by_cases e2 : (q0 + (i + 1) ≤ a ∧ a < q0 + 10) ∧ b < 7
    · rw [if_pos e2, if_neg (by omega), if_pos (by omega)]
    · rw [if_neg e2, if_neg (by omega), if_neg (by omega)]
theorem irow_nil {σ : IM} {q0 q1 lo hi : Nat} (h : hi ≤ lo) : irow σ q0 q1 lo hi = σ := by
  funext a b
  exact if_neg (by omega)
theorem becK_L {K : Mm → Aa} {z : Int32 → Mm → Aa} : ∀ (d i n : Nat) (σ : IM), i + d = 10 → d < n → mm_lk z (fX3_becomeK_L33 K) n (mI i) (enc σ) = K (enc (irow σ 17 4 i 10))
  | d, i, 0, σ, _, h => absurd h (Nat.not_lt_zero d)
  | 0, i, n + 1, σ, h, _ => by
    rw [mm_lk_s, fX3_becomeK_L33]
    simp (implicitDefEqProofs := false) (maxSteps := 1000000) (disch := omega) only [↓mm_lt_s, ↓cl_in, ↓cl_wi, ↓cl_has, ↓cl_isP, mL_le, lit_n, litL_n, mL_mI, mL_neg, mm_cl_s, mI_lt, mI_le, mI_eq, enc_at, enc_wr, enc_cp, mI_neg, mI_add, mI_sub, mI_mul, mI_ix, mm_ck_ok, mm_nz_ok, mm_bo_c, mm_bo_m0, mm_bo_m1, b01, Int.toNat_natCast, Int.reduceToNat, Int.reduceNeg, Int.reduceSub, Int.reduceAdd, Int.reduceMul, Int.reduceLT, Int.reduceLE, Int.reduceEq, ↓reduceIte, not_true, not_false_eq_true, not_true_eq_false, and_self, true_and, and_true, false_and, and_false, Decidable.not_not, stv1, stv2, stv3, stv4]
    repeat (first | rw [if_pos (by omega)] | rw [if_neg (by omega)])
    rw [irow_nil (by omega)]
  | d + 1, i, n + 1, σ, h, h2 => by
    rw [mm_lk_s, fX3_becomeK_L33]
    simp (implicitDefEqProofs := false) (maxSteps := 1000000) (disch := omega) only [cast_s, mm_ac_ok, ↓mm_lt_s, ↓cl_in, ↓cl_wi, ↓cl_has, ↓cl_isP, mL_le, lit_n, litL_n, mL_mI, mL_neg, mm_cl_s, mI_lt, mI_le, mI_eq, enc_at, enc_wr, enc_cp, mI_neg, mI_add, mI_sub, mI_mul, mI_ix, mm_ck_ok, mm_nz_ok, mm_bo_c, mm_bo_m0, mm_bo_m1, b01, Int.toNat_natCast, Int.reduceToNat, Int.reduceNeg, Int.reduceSub, Int.reduceAdd, Int.reduceMul, Int.reduceLT, Int.reduceLE, Int.reduceEq, ↓reduceIte, not_true, not_false_eq_true, not_true_eq_false, and_self, true_and, and_true, false_and, and_false, Decidable.not_not, stv1, stv2, stv3, stv4]
    repeat (first | rw [if_pos (by omega)] | rw [if_neg (by omega)])
    rw [becK_L d (i + 1) n _ (by omega) (by omega), irow_step (by omega) rfl (by omega)]
theorem becN_L {K : Mm → Aa} {z : Int32 → Mm → Aa} : ∀ (d i n : Nat) (σ : IM), i + d = 10 → d < n → mm_lk z (fX3_becomeN_L33 K) n (mI i) (enc σ) = K (enc (irow σ 4 17 i 10))
  | d, i, 0, σ, _, h => absurd h (Nat.not_lt_zero d)
  | 0, i, n + 1, σ, h, _ => by
    rw [mm_lk_s, fX3_becomeN_L33]
    simp (implicitDefEqProofs := false) (maxSteps := 1000000) (disch := omega) only [↓mm_lt_s, ↓cl_in, ↓cl_wi, ↓cl_has, ↓cl_isP, mL_le, lit_n, litL_n, mL_mI, mL_neg, mm_cl_s, mI_lt, mI_le, mI_eq, enc_at, enc_wr, enc_cp, mI_neg, mI_add, mI_sub, mI_mul, mI_ix, mm_ck_ok, mm_nz_ok, mm_bo_c, mm_bo_m0, mm_bo_m1, b01, Int.toNat_natCast, Int.reduceToNat, Int.reduceNeg, Int.reduceSub, Int.reduceAdd, Int.reduceMul, Int.reduceLT, Int.reduceLE, Int.reduceEq, ↓reduceIte, not_true, not_false_eq_true, not_true_eq_false, and_self, true_and, and_true, false_and, and_false, Decidable.not_not, stv1, stv2, stv3, stv4]
    repeat (first | rw [if_pos (by omega)] | rw [if_neg (by omega)])
    rw [irow_nil (by omega)]
  | d + 1, i, n + 1, σ, h, h2 => by
    rw [mm_lk_s, fX3_becomeN_L33]
    simp (implicitDefEqProofs := false) (maxSteps := 1000000) (disch := omega) only [cast_s, mm_ac_ok, ↓mm_lt_s, ↓cl_in, ↓cl_wi, ↓cl_has, ↓cl_isP, mL_le, lit_n, litL_n, mL_mI, mL_neg, mm_cl_s, mI_lt, mI_le, mI_eq, enc_at, enc_wr, enc_cp, mI_neg, mI_add, mI_sub, mI_mul, mI_ix, mm_ck_ok, mm_nz_ok, mm_bo_c, mm_bo_m0, mm_bo_m1, b01, Int.toNat_natCast, Int.reduceToNat, Int.reduceNeg, Int.reduceSub, Int.reduceAdd, Int.reduceMul, Int.reduceLT, Int.reduceLE, Int.reduceEq, ↓reduceIte, not_true, not_false_eq_true, not_true_eq_false, and_self, true_and, and_true, false_and, and_false, Decidable.not_not, stv1, stv2, stv3, stv4]
    repeat (first | rw [if_pos (by omega)] | rw [if_neg (by omega)])
    rw [becN_L d (i + 1) n _ (by omega) (by omega), irow_step (by omega) rfl (by omega)]
