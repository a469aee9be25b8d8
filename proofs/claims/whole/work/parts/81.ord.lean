/-! order -/
theorem ord_a1 {s g i : Int} {σ : IM} (x1 : fX1_choose (mI s) (enc σ 1 1) (enc σ) = some (mI 0, enc σ)) : fX6_order (mI s) (mI g) (mI i) (enc σ) = some (mI (-1), enc σ) := by
  unfold fX6_order
  rw [x1]
  rfl
theorem ord_a2 {s g i : Int} {τ τ1 : IM} (x2 : fX7_takeSome (mI s) (enc τ) = some (mI 0, enc τ1)) : fX7_order (mI s) (mI g) (mI i) (enc τ) = some (mI (-1), enc τ1) := by
  unfold fX7_order
  rw [x2]
  rfl
theorem ord_b1 {s g i : Int} {n : Nat} {σ σ1 : IM} (hg : I32 g) (hi : I32 i) (hn : n ≤ 6) (x1 : fX1_choose (mI s) (enc σ 1 1) (enc σ) = some (mI 1, enc σ1)) (x4 : σ1 44 0 = (n : Int)) (c : ¬ ((0 ≤ g ∧ g ≤ 60) ∧ -2 ≤ i ∧ i < n)) : fX6_order (mI s) (mI g) (mI i) (enc σ) = some (mI (-1), enc σ1) := by
  have o : ¬ (1 : Int) = 0 := by omega
  unfold fX6_order
  rw [x1]
  by_cases g1 : g < 0
  · simp (implicitDefEqProofs := false) (maxSteps := 1000000) (disch := omega) only [o, g1, ↓mm_lt_s, ↓cl_in, ↓cl_wi, ↓cl_has, ↓cl_isP, mL_le, lit_n, litL_n, mL_mI, mL_neg, mm_cl_s, mI_lt, mI_le, mI_eq, enc_at, enc_wr, enc_cp, mI_neg, mI_add, mI_sub, mI_mul, mI_ix, mm_ck_ok, mm_nz_ok, mm_bo_c, mm_bo_m0, mm_bo_m1, b01, Int.toNat_natCast, Int.reduceToNat, Int.reduceNeg, Int.reduceSub, Int.reduceAdd, Int.reduceMul, Int.reduceLT, Int.reduceLE, Int.reduceEq, ↓reduceIte, not_true, not_false_eq_true, not_true_eq_false, and_self, true_and, and_true, false_and, and_false, Decidable.not_not, stv1, stv2, stv3, stv4]
  · by_cases g2 : 60 < g
    · simp (implicitDefEqProofs := false) (maxSteps := 1000000) (disch := omega) only [o, g1, g2, ↓mm_lt_s, ↓cl_in, ↓cl_wi, ↓cl_has, ↓cl_isP, mL_le, lit_n, litL_n, mL_mI, mL_neg, mm_cl_s, mI_lt, mI_le, mI_eq, enc_at, enc_wr, enc_cp, mI_neg, mI_add, mI_sub, mI_mul, mI_ix, mm_ck_ok, mm_nz_ok, mm_bo_c, mm_bo_m0, mm_bo_m1, b01, Int.toNat_natCast, Int.reduceToNat, Int.reduceNeg, Int.reduceSub, Int.reduceAdd, Int.reduceMul, Int.reduceLT, Int.reduceLE, Int.reduceEq, ↓reduceIte, not_true, not_false_eq_true, not_true_eq_false, and_self, true_and, and_true, false_and, and_false, Decidable.not_not, stv1, stv2, stv3, stv4]
    · by_cases c1 : i < -2
      · simp (implicitDefEqProofs := false) (maxSteps := 1000000) (disch := omega) only [o, g1, g2, c1, ↓mm_lt_s, ↓cl_in, ↓cl_wi, ↓cl_has, ↓cl_isP, mL_le, lit_n, litL_n, mL_mI, mL_neg, mm_cl_s, mI_lt, mI_le, mI_eq, enc_at, enc_wr, enc_cp, mI_neg, mI_add, mI_sub, mI_mul, mI_ix, mm_ck_ok, mm_nz_ok, mm_bo_c, mm_bo_m0, mm_bo_m1, b01, Int.toNat_natCast, Int.reduceToNat, Int.reduceNeg, Int.reduceSub, Int.reduceAdd, Int.reduceMul, Int.reduceLT, Int.reduceLE, Int.reduceEq, ↓reduceIte, not_true, not_false_eq_true, not_true_eq_false, and_self, true_and, and_true, false_and, and_false, Decidable.not_not, stv1, stv2, stv3, stv4]
      · have c2 : ¬ i < (n : Int) := by omega
        simp (implicitDefEqProofs := false) (maxSteps := 1000000) (disch := omega) only [o, g1, g2, c1, x4, c2, ↓mm_lt_s, ↓cl_in, ↓cl_wi, ↓cl_has, ↓cl_isP, mL_le, lit_n, litL_n, mL_mI, mL_neg, mm_cl_s, mI_lt, mI_le, mI_eq, enc_at, enc_wr, enc_cp, mI_neg, mI_add, mI_sub, mI_mul, mI_ix, mm_ck_ok, mm_nz_ok, mm_bo_c, mm_bo_m0, mm_bo_m1, b01, Int.toNat_natCast, Int.reduceToNat, Int.reduceNeg, Int.reduceSub, Int.reduceAdd, Int.reduceMul, Int.reduceLT, Int.reduceLE, Int.reduceEq, ↓reduceIte, not_true, not_false_eq_true, not_true_eq_false, and_self, true_and, and_true, false_and, and_false, Decidable.not_not, stv1, stv2, stv3, stv4]
theorem ord_b2 {s g i : Int} {n : Nat} {τ τ1 : IM} (hg : I32 g) (hi : I32 i) (hn : n ≤ 6) (x2 : fX7_takeSome (mI s) (enc τ) = some (mI 1, enc τ1)) (x5 : τ1 0 29 = (n : Int)) (c : ¬ ((0 ≤ g ∧ g ≤ 60) ∧ -2 ≤ i ∧ i < n)) : fX7_order (mI s) (mI g) (mI i) (enc τ) = some (mI (-1), enc τ1) := by
  by_cases c0 : 0 ≤ g ∧ g ≤ 60
  · have G : ((0 : Int64) ≤ (mI g).toInt64 ∧ (mI g).toInt64 ≤ 60) := by
      simp (implicitDefEqProofs := false) (maxSteps := 1000000) (disch := omega) only [↓mm_lt_s, ↓cl_in, ↓cl_wi, ↓cl_has, ↓cl_isP, mL_le, lit_n, litL_n, mL_mI, mL_neg, mm_cl_s, mI_lt, mI_le, mI_eq, enc_at, enc_wr, enc_cp, mI_neg, mI_add, mI_sub, mI_mul, mI_ix, mm_ck_ok, mm_nz_ok, mm_bo_c, mm_bo_m0, mm_bo_m1, b01, Int.toNat_natCast, Int.reduceToNat, Int.reduceNeg, Int.reduceSub, Int.reduceAdd, Int.reduceMul, Int.reduceLT, Int.reduceLE, Int.reduceEq, ↓reduceIte, not_true, not_false_eq_true, not_true_eq_false, and_self, true_and, and_true, false_and, and_false, Decidable.not_not, stv1, stv2, stv3, stv4]
      exact c0
    have P : ¬ ((-2 : Int64) ≤ (mI i).toInt64 ∧ (mI i).toInt64 ≤ ((enc τ1 0 29) - 1).toInt64) := by
      have c1 : ¬ (-2 ≤ i ∧ i ≤ (n : Int) - 1) := fun x => c ⟨c0, by omega⟩
      simp (implicitDefEqProofs := false) (maxSteps := 1000000) (disch := omega) only [x5, ↓mm_lt_s, ↓cl_in, ↓cl_wi, ↓cl_has, ↓cl_isP, mL_le, lit_n, litL_n, mL_mI, mL_neg, mm_cl_s, mI_lt, mI_le, mI_eq, enc_at, enc_wr, enc_cp, mI_neg, mI_add, mI_sub, mI_mul, mI_ix, mm_ck_ok, mm_nz_ok, mm_bo_c, mm_bo_m0, mm_bo_m1, b01, Int.toNat_natCast, Int.reduceToNat, Int.reduceNeg, Int.reduceSub, Int.reduceAdd, Int.reduceMul, Int.reduceLT, Int.reduceLE, Int.reduceEq, ↓reduceIte, not_true, not_false_eq_true, not_true_eq_false, and_self, true_and, and_true, false_and, and_false, Decidable.not_not, stv1, stv2, stv3, stv4]
      exact c1
    unfold fX7_order
    generalize hfu : mm_fu = NF; have hNF : 4096 ≤ NF := by rw [← hfu]; exact Nat.le_refl _
    rw [x2, mm_cl_s, mm_lt_s, if_neg (show ¬ mI 1 = 0 by decide), cl_in, if_pos G, if_neg (by decide), cl_in, if_neg P, if_pos rfl]
    rfl
  · have G : ¬ ((0 : Int64) ≤ (mI g).toInt64 ∧ (mI g).toInt64 ≤ 60) := by
      simp (implicitDefEqProofs := false) (maxSteps := 1000000) (disch := omega) only [↓mm_lt_s, ↓cl_in, ↓cl_wi, ↓cl_has, ↓cl_isP, mL_le, lit_n, litL_n, mL_mI, mL_neg, mm_cl_s, mI_lt, mI_le, mI_eq, enc_at, enc_wr, enc_cp, mI_neg, mI_add, mI_sub, mI_mul, mI_ix, mm_ck_ok, mm_nz_ok, mm_bo_c, mm_bo_m0, mm_bo_m1, b01, Int.toNat_natCast, Int.reduceToNat, Int.reduceNeg, Int.reduceSub, Int.reduceAdd, Int.reduceMul, Int.reduceLT, Int.reduceLE, Int.reduceEq, ↓reduceIte, not_true, not_false_eq_true, not_true_eq_false, and_self, true_and, and_true, false_and, and_false, Decidable.not_not, stv1, stv2, stv3, stv4]
      exact c0
    unfold fX7_order
    generalize hfu : mm_fu = NF; have hNF : 4096 ≤ NF := by rw [← hfu]; exact Nat.le_refl _
    rw [x2, mm_cl_s, mm_lt_s, if_neg (show ¬ mI 1 = 0 by decide), cl_in, if_neg G, if_pos rfl]
    rfl
theorem ord_c2 {s g i : Int} {n : Nat} {τ τ1 τ2 : IM} (hg : I32 g) (hi : I32 i) (hn : n ≤ 6) (x2 : fX7_takeSome (mI s) (enc τ) = some (mI 1, enc τ1)) (x5 : τ1 0 29 = (n : Int)) (c0 : 0 ≤ g ∧ g ≤ 60) (c : -2 ≤ i ∧ i < n) (F : ∀ NF, 4096 ≤ NF → ∀ K z z2, mm_lk z (fX7_order_L43 (fun m7 => mm_lk z2 (fX7_order_L73 (mI g) K) NF (mI 1) (mm_wr m7 0 33 (mI (-1))))) NF (mI 0) (enc τ1) = K (enc τ2)) : fX7_order (mI s) (mI g) (mI i) (enc τ) = (if mI i = -1 then some (enc τ2 0 33, enc τ2) else if mI i = -2 then some (enc τ2 0 34, enc τ2) else mm_ck (mI i) 6 (mm_ck (enc τ2 21 (mI i).toNatClampNeg) 6 (some (enc τ2 19 (enc τ2 21 (mI i).toNatClampNeg).toNatClampNeg, enc τ2)))) := by
  have G : ((0 : Int64) ≤ (mI g).toInt64 ∧ (mI g).toInt64 ≤ 60) := by
    simp (implicitDefEqProofs := false) (maxSteps := 1000000) (disch := omega) only [↓mm_lt_s, ↓cl_in, ↓cl_wi, ↓cl_has, ↓cl_isP, mL_le, lit_n, litL_n, mL_mI, mL_neg, mm_cl_s, mI_lt, mI_le, mI_eq, enc_at, enc_wr, enc_cp, mI_neg, mI_add, mI_sub, mI_mul, mI_ix, mm_ck_ok, mm_nz_ok, mm_bo_c, mm_bo_m0, mm_bo_m1, b01, Int.toNat_natCast, Int.reduceToNat, Int.reduceNeg, Int.reduceSub, Int.reduceAdd, Int.reduceMul, Int.reduceLT, Int.reduceLE, Int.reduceEq, ↓reduceIte, not_true, not_false_eq_true, not_true_eq_false, and_self, true_and, and_true, false_and, and_false, Decidable.not_not, stv1, stv2, stv3, stv4]
    exact c0
  have P : ((-2 : Int64) ≤ (mI i).toInt64 ∧ (mI i).toInt64 ≤ ((enc τ1 0 29) - 1).toInt64) := by
    have c1 : (-2 ≤ i ∧ i ≤ (n : Int) - 1) := by omega
    simp (implicitDefEqProofs := false) (maxSteps := 1000000) (disch := omega) only [x5, ↓mm_lt_s, ↓cl_in, ↓cl_wi, ↓cl_has, ↓cl_isP, mL_le, lit_n, litL_n, mL_mI, mL_neg, mm_cl_s, mI_lt, mI_le, mI_eq, enc_at, enc_wr, enc_cp, mI_neg, mI_add, mI_sub, mI_mul, mI_ix, mm_ck_ok, mm_nz_ok, mm_bo_c, mm_bo_m0, mm_bo_m1, b01, Int.toNat_natCast, Int.reduceToNat, Int.reduceNeg, Int.reduceSub, Int.reduceAdd, Int.reduceMul, Int.reduceLT, Int.reduceLE, Int.reduceEq, ↓reduceIte, not_true, not_false_eq_true, not_true_eq_false, and_self, true_and, and_true, false_and, and_false, Decidable.not_not, stv1, stv2, stv3, stv4]
    exact c1
  unfold fX7_order
  generalize hfu : mm_fu = NF; have hNF : 4096 ≤ NF := by rw [← hfu]; exact Nat.le_refl _
  rw [x2, mm_cl_s, mm_lt_s, if_neg (show ¬ mI 1 = 0 by decide), cl_in, if_pos G, if_neg (by decide), cl_in, if_pos P, if_neg (by decide), mm_lt_s, mm_lt_s]
  exact F NF hNF (fun m12 => if mI i = -1 then some (m12 0 33, m12) else if mI i = -2 then some (m12 0 34, m12) else mm_ck (mI i) 6 (mm_ck (m12 21 (mI i).toNatClampNeg) 6 (some (m12 19 (m12 21 (mI i).toNatClampNeg).toNatClampNeg, m12)))) (fun _ _ => none) (fun _ _ => none)
theorem ord_c1 {s g i : Int} {n b : Nat} {σ σ1 σ2 : IM} (hg : I32 g) (hi : I32 i) (hn : n ≤ 6) (x1 : fX1_choose (mI s) (enc σ 1 1) (enc σ) = some (mI 1, enc σ1)) (x4 : σ1 44 0 = (n : Int)) (c0 : 0 ≤ g ∧ g ≤ 60) (c : -2 ≤ i ∧ i < n) (f1 : fX1_findRow (mI g) (enc σ1) = some (mI 0, enc σ2)) (hb : b < 6) (h45 : 0 ≤ i → σ2 45 i.toNat = (b : Int)) : fX6_order (mI s) (mI g) (mI i) (enc σ) = (if i = -1 then some (mI (σ2 44 2), enc σ2) else if i = -2 then some (mI (σ2 44 3), enc σ2) else some (mI (σ2 46 b), enc σ2)) := by
  have o : ¬ (1 : Int) = 0 := by omega
  have g1 : ¬ g < 0 := by omega
  have g2 : ¬ 60 < g := by omega
  have c1 : ¬ i < -2 := by omega
  have c2 : i < (n : Int) := by omega
  unfold fX6_order
  rw [x1]
  simp (implicitDefEqProofs := false) (maxSteps := 1000000) (disch := omega) only [o, x4, g1, g2, c1, c2, ↓mm_lt_s, ↓cl_in, ↓cl_wi, ↓cl_has, ↓cl_isP, mL_le, lit_n, litL_n, mL_mI, mL_neg, mm_cl_s, mI_lt, mI_le, mI_eq, enc_at, enc_wr, enc_cp, mI_neg, mI_add, mI_sub, mI_mul, mI_ix, mm_ck_ok, mm_nz_ok, mm_bo_c, mm_bo_m0, mm_bo_m1, b01, Int.toNat_natCast, Int.reduceToNat, Int.reduceNeg, Int.reduceSub, Int.reduceAdd, Int.reduceMul, Int.reduceLT, Int.reduceLE, Int.reduceEq, ↓reduceIte, not_true, not_false_eq_true, not_true_eq_false, and_self, true_and, and_true, false_and, and_false, Decidable.not_not, stv1, stv2, stv3, stv4]
  rw [f1]
  by_cases d1 : i = -1
  · subst d1
    unfold fX1_found
    simp (implicitDefEqProofs := false) (maxSteps := 1000000) (disch := omega) only [↓mm_lt_s, ↓cl_in, ↓cl_wi, ↓cl_has, ↓cl_isP, mL_le, lit_n, litL_n, mL_mI, mL_neg, mm_cl_s, mI_lt, mI_le, mI_eq, enc_at, enc_wr, enc_cp, mI_neg, mI_add, mI_sub, mI_mul, mI_ix, mm_ck_ok, mm_nz_ok, mm_bo_c, mm_bo_m0, mm_bo_m1, b01, Int.toNat_natCast, Int.reduceToNat, Int.reduceNeg, Int.reduceSub, Int.reduceAdd, Int.reduceMul, Int.reduceLT, Int.reduceLE, Int.reduceEq, ↓reduceIte, not_true, not_false_eq_true, not_true_eq_false, and_self, true_and, and_true, false_and, and_false, Decidable.not_not, stv1, stv2, stv3, stv4]
  · by_cases d2 : i = -2
    · subst d2
      unfold fX1_found
      simp (implicitDefEqProofs := false) (maxSteps := 1000000) (disch := omega) only [↓mm_lt_s, ↓cl_in, ↓cl_wi, ↓cl_has, ↓cl_isP, mL_le, lit_n, litL_n, mL_mI, mL_neg, mm_cl_s, mI_lt, mI_le, mI_eq, enc_at, enc_wr, enc_cp, mI_neg, mI_add, mI_sub, mI_mul, mI_ix, mm_ck_ok, mm_nz_ok, mm_bo_c, mm_bo_m0, mm_bo_m1, b01, Int.toNat_natCast, Int.reduceToNat, Int.reduceNeg, Int.reduceSub, Int.reduceAdd, Int.reduceMul, Int.reduceLT, Int.reduceLE, Int.reduceEq, ↓reduceIte, not_true, not_false_eq_true, not_true_eq_false, and_self, true_and, and_true, false_and, and_false, Decidable.not_not, stv1, stv2, stv3, stv4]
    · have d3 : 0 ≤ i := by omega
      have e := h45 d3
      rw [if_neg d1, if_neg d2]
      unfold fX1_bestPerson
      simp (implicitDefEqProofs := false) (maxSteps := 1000000) (disch := omega) only [d3, e, ↓mm_lt_s, ↓cl_in, ↓cl_wi, ↓cl_has, ↓cl_isP, mL_le, lit_n, litL_n, mL_mI, mL_neg, mm_cl_s, mI_lt, mI_le, mI_eq, enc_at, enc_wr, enc_cp, mI_neg, mI_add, mI_sub, mI_mul, mI_ix, mm_ck_ok, mm_nz_ok, mm_bo_c, mm_bo_m0, mm_bo_m1, b01, Int.toNat_natCast, Int.reduceToNat, Int.reduceNeg, Int.reduceSub, Int.reduceAdd, Int.reduceMul, Int.reduceLT, Int.reduceLE, Int.reduceEq, ↓reduceIte, not_true, not_false_eq_true, not_true_eq_false, and_self, true_and, and_true, false_and, and_false, Decidable.not_not, stv1, stv2, stv3, stv4]
theorem q_order (s g i : Int) (hs : I32 s) (hg : I32 g) (hi : I32 i) {σ τ : IM} (h : RX σ τ) : Like (fX6_order (mI s) (mI g) (mI i) (enc σ)) (fX7_order (mI s) (mI g) (mI i) (enc τ)) := by
  rcases chooR hs h with ⟨x1, τ1, x2, x3⟩ | ⟨σ1, τ1, n, w, hn, x1, x2, x3, x4, x5, x6⟩
  · exact Like.mk (ord_a1 x1) (ord_a2 x2) x3
  · by_cases c : (0 ≤ g ∧ g ≤ 60) ∧ -2 ≤ i ∧ i < n
    · obtain ⟨σ', τ', f1, f2, f3, f4, f5⟩ := orFind c.1 x3 hn x4 x5 x6
      have M := ord_c2 hg hi hn.2 x2 x5 c.1 c.2 f2
      rcases f4 with ⟨e, -⟩ | ⟨b1, b2, b3⟩
      · exact absurd e f5
      · have q8 := f3.2.2.2.2
        by_cases d1 : i = -1
        · subst d1
          have X := ord_c1 (b := 0) hg hi hn.2 x1 x4 c.1 c.2 f1 (by omega) (fun z => absurd z (by decide))
          rw [if_pos rfl] at X
          rw [if_pos (show mI (-1) = -1 from rfl), enc_at, b1.1] at M
          exact Like.mk X M f3.1
        · have m1 : ¬ mI i = -1 := by
            have e : (-1 : Int32) = mI (-1) := rfl
            rw [e, mI_eq hi.1 hi.2 (by omega) (by omega)]
            exact d1
          rw [if_neg m1] at M
          by_cases d2 : i = -2
          · subst d2
            have X := ord_c1 (b := 0) hg hi hn.2 x1 x4 c.1 c.2 f1 (by omega) (fun z => absurd z (by decide))
            rw [if_neg d1, if_pos rfl] at X
            rw [if_pos (show mI (-2) = -2 from rfl), enc_at, b2.1] at M
            exact Like.mk X M f3.1
          · have m2 : ¬ mI i = -2 := by
              have e : (-2 : Int32) = mI (-2) := rfl
              rw [e, mI_eq hi.1 hi.2 (by omega) (by omega)]
              exact d2
            obtain ⟨k1, k2, k3⟩ := b3 i.toNat (by omega)
            obtain ⟨b, hb⟩ := Int.eq_ofNat_of_zero_le k2
            have bn : b < n := by omega
            have X := ord_c1 (b := b) hg hi hn.2 x1 x4 c.1 c.2 f1 (by omega) (fun _ => by rw [k1, hb])
            obtain ⟨w1, w2, w3, -⟩ := q8 b bn
            rw [if_neg d1, if_neg d2, w2] at X
            rw [if_neg m2, mm_ck_ok (by omega) (by omega) (by omega), mI_ix (by omega) (by omega), enc_at, hb, mm_ck_ok (by omega) (by omega) (by omega), mI_ix (by omega) (by omega), Int.toNat_natCast, enc_at, w3] at M
            exact Like.mk X M f3.1
    · exact Like.mk (ord_b1 hg hi hn.2 x1 x4 c) (ord_b2 hg hi hn.2 x2 x5 c) x3
