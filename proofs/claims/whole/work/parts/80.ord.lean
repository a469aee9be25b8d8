/-! order: the search -/
theorem comesX {n : Nat} {r v : Nat → Nat} {gap : Int} (hn : n ≤ 6) (hg : 0 ≤ gap ∧ gap ≤ 60) (hv : ∀ k, k < n → v k < n ∧ r (v k) = k ∧ r k < n ∧ v (r k) = k) : ∀ (d i : Nat) (σ : IM), i + d = n → σ 44 0 = (n : Int) → (∀ k, k < n → σ 47 k = (r k : Int)) → ∃ σ' : IM, (∀ (N : Nat), d < N → ∀ (K : Mm → Aa) (z : Int32 → Mm → Aa), mm_lk z (fX1_findRow_L47 (mI gap) K) N (mI i) (enc σ) = K (enc σ')) ∧ (∀ k, k < n → i ≤ v k → σ' (34 + k) 0 = gO v gap k) ∧ (∀ k, k < n → v k < i → σ' (34 + k) 0 = σ (34 + k) 0) ∧ ∀ a b, ¬ ((34 ≤ a ∧ a < 34 + n) ∧ b = 0) → σ' a b = σ a b := by
  intro d
  induction d with
  | zero =>
    intro i σ h h0 hr
    refine ⟨σ, fun N hN K z => ?_, fun k hk h1 => by have := (hv k hk).1; omega, fun _ _ _ => rfl, fun _ _ _ => rfl⟩
    obtain ⟨N, rfl⟩ : ∃ M, N = M + 1 := ⟨N - 1, by omega⟩
    rw [mm_lk_s, fX1_findRow_L47]
    simp (implicitDefEqProofs := false) (maxSteps := 1000000) (disch := omega) only [h0, ↓mm_lt_s, ↓cl_in, ↓cl_wi, ↓cl_has, ↓cl_isP, mL_le, lit_n, litL_n, mL_mI, mL_neg, mm_cl_s, mI_lt, mI_le, mI_eq, enc_at, enc_wr, enc_cp, mI_neg, mI_add, mI_sub, mI_mul, mI_ix, mm_ck_ok, mm_nz_ok, mm_bo_c, mm_bo_m0, mm_bo_m1, b01, Int.toNat_natCast, Int.reduceToNat, Int.reduceNeg, Int.reduceSub, Int.reduceAdd, Int.reduceMul, Int.reduceLT, Int.reduceLE, Int.reduceEq, ↓reduceIte, not_true, not_false_eq_true, not_true_eq_false, and_self, true_and, and_true, false_and, and_false, Decidable.not_not, stv1, stv2, stv3, stv4]
    repeat (first | rw [if_pos (by omega)] | rw [if_neg (by omega)])
  | succ d ih =>
    intro i σ h h0 hr
    have hi : i < n := by omega
    obtain ⟨v1, v2, v3, v4⟩ := hv i hi
    have r1 := hr i hi
    have c1 : ¬ (n : Int) ≤ (i : Int) := by omega
    have p1 : 0 ≤ (i : Int) * gap := Int.mul_nonneg (by omega) hg.1
    have p2 : (i : Int) * gap ≤ 6 * 60 := Int.mul_le_mul (by omega) hg.2 hg.1 (by omega)
    obtain ⟨σ', q1, q2, q3, q4⟩ := ih (i + 1) (iw σ (34 + r i) 0 ((i : Int) * gap)) (by omega) (by rw [iw_ne (by omega)]; exact h0) (fun k hk => by rw [iw_ne (by omega)]; exact hr k hk)
    refine ⟨σ', fun N hN K z => ?_, fun k hk h1 => ?_, fun k hk h1 => ?_, fun a b h1 => ?_⟩
    · obtain ⟨N, rfl⟩ : ∃ M, N = M + 1 := ⟨N - 1, by omega⟩
      rw [← q1 N (by omega) K z, mm_lk_s, fX1_findRow_L47]
      simp (implicitDefEqProofs := false) (maxSteps := 1000000) (disch := omega) only [h0, c1, r1, cast_s, ↓mm_lt_s, ↓cl_in, ↓cl_wi, ↓cl_has, ↓cl_isP, mL_le, lit_n, litL_n, mL_mI, mL_neg, mm_cl_s, mI_lt, mI_le, mI_eq, enc_at, enc_wr, enc_cp, mI_neg, mI_add, mI_sub, mI_mul, mI_ix, mm_ck_ok, mm_nz_ok, mm_bo_c, mm_bo_m0, mm_bo_m1, b01, Int.toNat_natCast, Int.reduceToNat, Int.reduceNeg, Int.reduceSub, Int.reduceAdd, Int.reduceMul, Int.reduceLT, Int.reduceLE, Int.reduceEq, ↓reduceIte, not_true, not_false_eq_true, not_true_eq_false, and_self, true_and, and_true, false_and, and_false, Decidable.not_not, stv1, stv2, stv3, stv4]
    · by_cases e : v k = i
      · have ek : k = r i := by rw [← e]; exact ((hv k hk).2.1).symm
        rw [q3 k hk (by omega), iw_eq (by omega) rfl]
        show (i : Int) * gap = (v k : Int) * gap
        rw [e]
      · exact q2 k hk (by omega)
    · have ek : k ≠ r i := fun e => by subst e; omega
      rw [q3 k hk (by omega), iw_ne (by omega)]
    · rw [q4 a b h1, iw_ne (by omega)]
theorem orLoop {n : Nat} {w : Nat → Nat} {gap : Int} (hg : 0 ≤ gap ∧ gap ≤ 60) : ∀ (f c tried : Nat) (σ τ : IM), ends (nxP n) (okP n) f c = true → tried + f ≤ 1000 → QL σ τ n w → (∀ k, k < n → σ (34 + k) 6 = (k : Int) ∧ σ (34 + k) 7 = 0) → (∀ k, k < n → σ 47 k = (dg c k : Int) ∧ τ 20 k = (dg c k : Int)) → BR σ τ n → ∃ σ' τ' : IM, QL σ' τ' n w ∧ BR σ' τ' n ∧ τ' 0 33 ≠ -1 ∧ (∀ (N : Nat), f < N → ∀ (K1 K2 : Mm → Aa) (z : Int32 → Mm → Aa), mm_lk z (fX1_findRow_L36 (mI gap) K1 K2) N (mI tried) (enc σ) = K2 (enc σ')) ∧ (∀ (N : Nat), f < N → ∀ (K : Mm → Aa) (z : Int32 → Mm → Aa), mm_lk z (fX7_order_L73 (mI gap) K) N (mI 1) (enc τ) = K (enc τ')) := by
  intro f
  induction f with
  | zero =>
    intro c tried σ τ hE
    exact absurd hE (by unfold ends; decide)
  | succ f ih =>
    intro c tried σ τ hE hT hQ h67 hrow hB
    obtain ⟨q1, ⟨q2, q3, q4, q5⟩, ⟨q6, q7⟩, ⟨p0, p1, p2, p3, p4, p5⟩, q8⟩ := id hQ
    unfold ends at hE
    rw [Bool.and_eq_true] at hE
    obtain ⟨hok, hnx⟩ := hE
    have IV := okP_iv hok
    have hv : ∀ k, k < n → ivF (dg c) k n < n ∧ dg c (ivF (dg c) k n) = k ∧ dg c k < n ∧ ivF (dg c) (dg c k) n = k := fun k hk => ⟨(IV k hk).2.2.1, (IV k hk).2.2.2, (IV k hk).1, (IV k hk).2.1⟩
    obtain ⟨σ1, CX, r1, -, f1⟩ := comesX (n := n) (r := dg c) (v := fun k => ivF (dg c) k n) (gap := gap) q2.2 hg hv n 0 σ (by omega) q4 (fun k hk => (hrow k hk).1)
    rw [cast0] at CX
    have Q1 : QL σ1 τ n w := hQ.cong (fun a b h => f1 a b (by unfold keepX at h; omega)) (fun _ _ _ => rfl)
    have gk : ∀ k, k < n → 0 ≤ gO (fun k => ivF (dg c) k n) gap k ∧ gO (fun k => ivF (dg c) k n) gap k ≤ 360 := fun k hk => by
      have := (hv k hk).1
      have x1 : 0 ≤ (ivF (dg c) k n : Int) * gap := Int.mul_nonneg (by omega) hg.1
      have x2 : (ivF (dg c) k n : Int) * gap ≤ 6 * 60 := Int.mul_le_mul (by omega) hg.2 hg.1 (by omega)
      exact ⟨x1, by show (ivF (dg c) k n : Int) * gap ≤ 360; omega⟩
    have LD1 : LD σ1 n := Q1.LD (fun k hk => by rw [r1 k hk (by omega)]; have := gk k hk; omega) (fun k hk => by
      rw [f1 _ _ (by omega), f1 _ _ (by omega), (h67 k hk).1, (h67 k hk).2]
      omega)
    have l0 := (q1.law 0 (by omega)).2
    have l1 := (q1.law 1 (by omega)).2
    have l2 := (q1.law 2 (by omega)).2
    have b0 := lawB 0
    have b2 := lawB 2
    have e1 : lawLo 1 = 0 ∧ lawHi 1 = 2 := ⟨rfl, rfl⟩
    have T1 : OT σ1 τ n w (dg c) (fun k => ivF (dg c) k n) gap := by
      refine ⟨⟨⟨q2, ?_⟩, ?_, ?_, ?_, ?_, ?_⟩, hQ.WK, fun j hj => (hrow j hj).2, fun k hk => ?_⟩
      · rw [f1 _ _ (by omega)]; exact q3
      · rw [f1 _ _ (by omega)]; exact q7
      · rw [f1 _ _ (by omega)]; omega
      · rw [f1 _ _ (by omega)]; omega
      · rw [f1 _ _ (by omega)]; exact p3
      · rw [f1 _ _ (by omega)]; exact p5
      · obtain ⟨w1, w2, w3, x1, x2, x3, x4, x5⟩ := q8 k hk
        refine ⟨?_, ?_, ?_, ?_, ?_, r1 k hk (by omega)⟩
        · rw [f1 _ _ (by omega)]; exact x2
        · rw [f1 _ _ (by omega)]; exact x3
        · rw [f1 _ _ (by omega)]; exact x5
        · rw [f1 _ _ (by omega)]; exact (h67 k hk).1
        · rw [f1 _ _ (by omega)]; exact (h67 k hk).2
    obtain ⟨σ2, τ2, D1, D2, D3, D4, D5⟩ := dayOr hg hok hv LD1 T1 (fun k hk => by rw [f1 _ _ (by omega)]; exact (q8 k hk).2.2.2.1) (by rw [f1 _ _ (by omega)]; exact q6) (by rw [f1 _ _ (by omega)]; omega)
    have g2 : ∀ a b, frX n a b → ¬ ((34 ≤ a ∧ a < 34 + n) ∧ b = 0) → σ2 a b = σ a b := fun a b h h' => by rw [D4 a b h, f1 a b h']
    have Q2 : QL σ2 τ2 n w := hQ.cong (fun a b h => g2 a b ⟨by unfold keepX at h; omega, by unfold keepX at h; omega, by unfold keepX at h; omega⟩ (by unfold keepX at h; omega)) (fun a b h => D5 a b ⟨by unfold keepM at h; omega, by unfold keepM at h; omega, by unfold keepM at h; omega⟩)
    have B2 : BR σ2 τ2 n := by
      unfold BR
      rw [g2 44 2 ⟨by omega, by omega, by omega⟩ (by omega), g2 44 3 ⟨by omega, by omega, by omega⟩ (by omega), D5 0 33 ⟨by omega, by omega, by omega⟩, D5 0 34 ⟨by omega, by omega, by omega⟩]
      rcases hB with x | ⟨x1, x2, x3⟩
      · exact Or.inl x
      · refine Or.inr ⟨x1, x2, fun k hk => ?_⟩
        rw [g2 45 k ⟨by omega, by omega, by omega⟩ (by omega), D5 21 k ⟨by omega, by omega, by omega⟩]
        exact x3 k hk
    have row2 : ∀ k, k < n → σ2 47 k = (dg c k : Int) ∧ τ2 20 k = (dg c k : Int) := fun k hk => by
      rw [g2 47 k ⟨by omega, by omega, by omega⟩ (by omega), D5 20 k ⟨by omega, by omega, by omega⟩]
      exact hrow k hk
    obtain ⟨σ3, τ3, K1, K2, K3, K4, K5, K6⟩ := keepR q2 D1 (by rw [g2 30 6 ⟨by omega, by omega, by omega⟩ (by omega)]; exact q3) (by rw [g2 44 0 ⟨by omega, by omega, by omega⟩ (by omega)]; exact q4) (by rw [D5 0 29 ⟨by omega, by omega, by omega⟩]; exact q5) B2 D3 (fun k hk => by
      have := row2 k hk
      have := (hv k hk).2.2.1
      omega)
    have Q3 : QL σ3 τ3 n w := Q2.cong (fun a b h => K5 a b (by unfold keepX at h; omega) (by unfold keepX at h; omega)) (fun a b h => K6 a b (by unfold keepM at h; omega) (by unfold keepM at h; omega))
    have row3 : ∀ k, k < n → σ3 47 k = (dg c k : Int) ∧ τ3 20 k = (dg c k : Int) ∧ dg c k < n := fun k hk => by
      rw [K5 47 k (by omega) (by omega), K6 20 k (by omega) (by omega)]
      exact ⟨(row2 k hk).1, (row2 k hk).2, (hv k hk).2.2.1⟩
    have ct : ¬ (1000 : Int) ≤ (tried : Int) := by omega
    have o : ¬ (1 : Int) = 0 := by omega
    rcases nxpR q2 Q3.2.1.2.2.1 Q3.2.1.2.2.2 row3 with ⟨N1, N2, N3⟩ | ⟨r', σ4, τ4, N1, N2, N3, N4, N5, N6⟩
    · refine ⟨σ3, τ3, Q3, K3, K4, fun N hN Ka Kb z => ?_, fun N hN K z => ?_⟩
      · obtain ⟨N, rfl⟩ : ∃ M, N = M + 1 := ⟨N - 1, by omega⟩
        rw [mm_lk_s, fX1_findRow_L36]
        generalize hfu : mm_fu = NF; have hNF : 4096 ≤ NF := by rw [← hfu]; exact Nat.le_refl _
        simp (implicitDefEqProofs := false) (maxSteps := 1000000) (disch := omega) only [ct, ↓mm_lt_s, ↓cl_in, ↓cl_wi, ↓cl_has, ↓cl_isP, mL_le, lit_n, litL_n, mL_mI, mL_neg, mm_cl_s, mI_lt, mI_le, mI_eq, enc_at, enc_wr, enc_cp, mI_neg, mI_add, mI_sub, mI_mul, mI_ix, mm_ck_ok, mm_nz_ok, mm_bo_c, mm_bo_m0, mm_bo_m1, b01, Int.toNat_natCast, Int.reduceToNat, Int.reduceNeg, Int.reduceSub, Int.reduceAdd, Int.reduceMul, Int.reduceLT, Int.reduceLE, Int.reduceEq, ↓reduceIte, not_true, not_false_eq_true, not_true_eq_false, and_self, true_and, and_true, false_and, and_false, Decidable.not_not, stv1, stv2, stv3, stv4]
        rw [CX NF (by omega)]
        rw [K1]
        simp (implicitDefEqProofs := false) (maxSteps := 1000000) (disch := omega) only [↓mm_lt_s, ↓cl_in, ↓cl_wi, ↓cl_has, ↓cl_isP, mL_le, lit_n, litL_n, mL_mI, mL_neg, mm_cl_s, mI_lt, mI_le, mI_eq, enc_at, enc_wr, enc_cp, mI_neg, mI_add, mI_sub, mI_mul, mI_ix, mm_ck_ok, mm_nz_ok, mm_bo_c, mm_bo_m0, mm_bo_m1, b01, Int.toNat_natCast, Int.reduceToNat, Int.reduceNeg, Int.reduceSub, Int.reduceAdd, Int.reduceMul, Int.reduceLT, Int.reduceLE, Int.reduceEq, ↓reduceIte, not_true, not_false_eq_true, not_true_eq_false, and_self, true_and, and_true, false_and, and_false, Decidable.not_not, stv1, stv2, stv3, stv4]
        rw [N2]
        simp (implicitDefEqProofs := false) (maxSteps := 1000000) (disch := omega) only [↓mm_lt_s, ↓cl_in, ↓cl_wi, ↓cl_has, ↓cl_isP, mL_le, lit_n, litL_n, mL_mI, mL_neg, mm_cl_s, mI_lt, mI_le, mI_eq, enc_at, enc_wr, enc_cp, mI_neg, mI_add, mI_sub, mI_mul, mI_ix, mm_ck_ok, mm_nz_ok, mm_bo_c, mm_bo_m0, mm_bo_m1, b01, Int.toNat_natCast, Int.reduceToNat, Int.reduceNeg, Int.reduceSub, Int.reduceAdd, Int.reduceMul, Int.reduceLT, Int.reduceLE, Int.reduceEq, ↓reduceIte, not_true, not_false_eq_true, not_true_eq_false, and_self, true_and, and_true, false_and, and_false, Decidable.not_not, stv1, stv2, stv3, stv4]
      · obtain ⟨N, rfl⟩ : ∃ M, N = M + 2 := ⟨N - 2, by omega⟩
        rw [show N + 2 = (N + 1) + 1 from rfl, mm_lk_s, fX7_order_L73]
        simp (implicitDefEqProofs := false) (maxSteps := 1000000) (disch := omega) only [o, ↓mm_lt_s, ↓cl_in, ↓cl_wi, ↓cl_has, ↓cl_isP, mL_le, lit_n, litL_n, mL_mI, mL_neg, mm_cl_s, mI_lt, mI_le, mI_eq, enc_at, enc_wr, enc_cp, mI_neg, mI_add, mI_sub, mI_mul, mI_ix, mm_ck_ok, mm_nz_ok, mm_bo_c, mm_bo_m0, mm_bo_m1, b01, Int.toNat_natCast, Int.reduceToNat, Int.reduceNeg, Int.reduceSub, Int.reduceAdd, Int.reduceMul, Int.reduceLT, Int.reduceLE, Int.reduceEq, ↓reduceIte, not_true, not_false_eq_true, not_true_eq_false, and_self, true_and, and_true, false_and, and_false, Decidable.not_not, stv1, stv2, stv3, stv4]
        rw [D2]
        simp (implicitDefEqProofs := false) (maxSteps := 1000000) (disch := omega) only [↓mm_lt_s, ↓cl_in, ↓cl_wi, ↓cl_has, ↓cl_isP, mL_le, lit_n, litL_n, mL_mI, mL_neg, mm_cl_s, mI_lt, mI_le, mI_eq, enc_at, enc_wr, enc_cp, mI_neg, mI_add, mI_sub, mI_mul, mI_ix, mm_ck_ok, mm_nz_ok, mm_bo_c, mm_bo_m0, mm_bo_m1, b01, Int.toNat_natCast, Int.reduceToNat, Int.reduceNeg, Int.reduceSub, Int.reduceAdd, Int.reduceMul, Int.reduceLT, Int.reduceLE, Int.reduceEq, ↓reduceIte, not_true, not_false_eq_true, not_true_eq_false, and_self, true_and, and_true, false_and, and_false, Decidable.not_not, stv1, stv2, stv3, stv4]
        rw [K2]
        simp (implicitDefEqProofs := false) (maxSteps := 1000000) (disch := omega) only [↓mm_lt_s, ↓cl_in, ↓cl_wi, ↓cl_has, ↓cl_isP, mL_le, lit_n, litL_n, mL_mI, mL_neg, mm_cl_s, mI_lt, mI_le, mI_eq, enc_at, enc_wr, enc_cp, mI_neg, mI_add, mI_sub, mI_mul, mI_ix, mm_ck_ok, mm_nz_ok, mm_bo_c, mm_bo_m0, mm_bo_m1, b01, Int.toNat_natCast, Int.reduceToNat, Int.reduceNeg, Int.reduceSub, Int.reduceAdd, Int.reduceMul, Int.reduceLT, Int.reduceLE, Int.reduceEq, ↓reduceIte, not_true, not_false_eq_true, not_true_eq_false, and_self, true_and, and_true, false_and, and_false, Decidable.not_not, stv1, stv2, stv3, stv4]
        rw [N3]
        simp (implicitDefEqProofs := false) (maxSteps := 1000000) (disch := omega) only [↓mm_lt_s, ↓cl_in, ↓cl_wi, ↓cl_has, ↓cl_isP, mL_le, lit_n, litL_n, mL_mI, mL_neg, mm_cl_s, mI_lt, mI_le, mI_eq, enc_at, enc_wr, enc_cp, mI_neg, mI_add, mI_sub, mI_mul, mI_ix, mm_ck_ok, mm_nz_ok, mm_bo_c, mm_bo_m0, mm_bo_m1, b01, Int.toNat_natCast, Int.reduceToNat, Int.reduceNeg, Int.reduceSub, Int.reduceAdd, Int.reduceMul, Int.reduceLT, Int.reduceLE, Int.reduceEq, ↓reduceIte, not_true, not_false_eq_true, not_true_eq_false, and_self, true_and, and_true, false_and, and_false, Decidable.not_not, stv1, stv2, stv3, stv4]
        rw [mm_lk_s, fX7_order_L73]
        simp (implicitDefEqProofs := false) (maxSteps := 1000000) (disch := omega) only [↓mm_lt_s, ↓cl_in, ↓cl_wi, ↓cl_has, ↓cl_isP, mL_le, lit_n, litL_n, mL_mI, mL_neg, mm_cl_s, mI_lt, mI_le, mI_eq, enc_at, enc_wr, enc_cp, mI_neg, mI_add, mI_sub, mI_mul, mI_ix, mm_ck_ok, mm_nz_ok, mm_bo_c, mm_bo_m0, mm_bo_m1, b01, Int.toNat_natCast, Int.reduceToNat, Int.reduceNeg, Int.reduceSub, Int.reduceAdd, Int.reduceMul, Int.reduceLT, Int.reduceLE, Int.reduceEq, ↓reduceIte, not_true, not_false_eq_true, not_true_eq_false, and_self, true_and, and_true, false_and, and_false, Decidable.not_not, stv1, stv2, stv3, stv4]
    · rw [N1] at hnx
      dsimp only at hnx
      rw [Bool.and_eq_true, Bool.and_eq_true, Bool.and_eq_true, Bool.and_eq_true, Bool.and_eq_true, Bool.and_eq_true, decide_eq_true_iff, decide_eq_true_iff, decide_eq_true_iff, decide_eq_true_iff, decide_eq_true_iff, decide_eq_true_iff] at hnx
      obtain ⟨⟨⟨⟨⟨⟨d0, d1⟩, d2⟩, d3⟩, d4⟩, d5⟩, hE'⟩ := hnx
      have dd := dg_en d0 d1 d2 d3 d4 d5
      have Q4 : QL σ4 τ4 n w := Q3.cong (fun a b h => N5 a b (by unfold keepX at h; omega)) (fun a b h => N6 a b (by unfold keepM at h; omega))
      have B4 : BR σ4 τ4 n := by
        unfold BR
        rw [N5 44 2 (by omega), N5 44 3 (by omega), N6 0 33 (by omega), N6 0 34 (by omega)]
        rcases K3 with x | ⟨x1, x2, x3⟩
        · exact Or.inl x
        · refine Or.inr ⟨x1, x2, fun k hk => ?_⟩
          rw [N5 45 k (by omega), N6 21 k (by omega)]
          exact x3 k hk
      obtain ⟨σ', τ', i1, i2, i3, i4, i5⟩ := ih (en6 r') (tried + 1) σ4 τ4 hE' (by omega) Q4 (fun k hk => by
        rw [N5 _ _ (by omega), N5 _ _ (by omega), K5 _ _ (by omega) (by omega), K5 _ _ (by omega) (by omega), g2 _ _ ⟨by omega, by omega, by omega⟩ (by omega), g2 _ _ ⟨by omega, by omega, by omega⟩ (by omega)]
        exact h67 k hk) (fun k hk => by rw [dd k (by omega)]; exact N4 k hk) B4
      refine ⟨σ', τ', i1, i2, i3, fun N hN Ka Kb z => ?_, fun N hN K z => ?_⟩
      · obtain ⟨N, rfl⟩ : ∃ M, N = M + 1 := ⟨N - 1, by omega⟩
        rw [← i4 N (by omega) Ka Kb z, mm_lk_s, fX1_findRow_L36]
        generalize hfu : mm_fu = NF; have hNF : 4096 ≤ NF := by rw [← hfu]; exact Nat.le_refl _
        simp (implicitDefEqProofs := false) (maxSteps := 1000000) (disch := omega) only [ct, ↓mm_lt_s, ↓cl_in, ↓cl_wi, ↓cl_has, ↓cl_isP, mL_le, lit_n, litL_n, mL_mI, mL_neg, mm_cl_s, mI_lt, mI_le, mI_eq, enc_at, enc_wr, enc_cp, mI_neg, mI_add, mI_sub, mI_mul, mI_ix, mm_ck_ok, mm_nz_ok, mm_bo_c, mm_bo_m0, mm_bo_m1, b01, Int.toNat_natCast, Int.reduceToNat, Int.reduceNeg, Int.reduceSub, Int.reduceAdd, Int.reduceMul, Int.reduceLT, Int.reduceLE, Int.reduceEq, ↓reduceIte, not_true, not_false_eq_true, not_true_eq_false, and_self, true_and, and_true, false_and, and_false, Decidable.not_not, stv1, stv2, stv3, stv4]
        rw [CX NF (by omega)]
        rw [K1]
        simp (implicitDefEqProofs := false) (maxSteps := 1000000) (disch := omega) only [↓mm_lt_s, ↓cl_in, ↓cl_wi, ↓cl_has, ↓cl_isP, mL_le, lit_n, litL_n, mL_mI, mL_neg, mm_cl_s, mI_lt, mI_le, mI_eq, enc_at, enc_wr, enc_cp, mI_neg, mI_add, mI_sub, mI_mul, mI_ix, mm_ck_ok, mm_nz_ok, mm_bo_c, mm_bo_m0, mm_bo_m1, b01, Int.toNat_natCast, Int.reduceToNat, Int.reduceNeg, Int.reduceSub, Int.reduceAdd, Int.reduceMul, Int.reduceLT, Int.reduceLE, Int.reduceEq, ↓reduceIte, not_true, not_false_eq_true, not_true_eq_false, and_self, true_and, and_true, false_and, and_false, Decidable.not_not, stv1, stv2, stv3, stv4]
        rw [N2]
        simp (implicitDefEqProofs := false) (maxSteps := 1000000) (disch := omega) only [o, cast_s, ↓mm_lt_s, ↓cl_in, ↓cl_wi, ↓cl_has, ↓cl_isP, mL_le, lit_n, litL_n, mL_mI, mL_neg, mm_cl_s, mI_lt, mI_le, mI_eq, enc_at, enc_wr, enc_cp, mI_neg, mI_add, mI_sub, mI_mul, mI_ix, mm_ck_ok, mm_nz_ok, mm_bo_c, mm_bo_m0, mm_bo_m1, b01, Int.toNat_natCast, Int.reduceToNat, Int.reduceNeg, Int.reduceSub, Int.reduceAdd, Int.reduceMul, Int.reduceLT, Int.reduceLE, Int.reduceEq, ↓reduceIte, not_true, not_false_eq_true, not_true_eq_false, and_self, true_and, and_true, false_and, and_false, Decidable.not_not, stv1, stv2, stv3, stv4]
      · obtain ⟨N, rfl⟩ : ∃ M, N = M + 1 := ⟨N - 1, by omega⟩
        rw [← i5 N (by omega) K z, mm_lk_s, fX7_order_L73]
        simp (implicitDefEqProofs := false) (maxSteps := 1000000) (disch := omega) only [o, ↓mm_lt_s, ↓cl_in, ↓cl_wi, ↓cl_has, ↓cl_isP, mL_le, lit_n, litL_n, mL_mI, mL_neg, mm_cl_s, mI_lt, mI_le, mI_eq, enc_at, enc_wr, enc_cp, mI_neg, mI_add, mI_sub, mI_mul, mI_ix, mm_ck_ok, mm_nz_ok, mm_bo_c, mm_bo_m0, mm_bo_m1, b01, Int.toNat_natCast, Int.reduceToNat, Int.reduceNeg, Int.reduceSub, Int.reduceAdd, Int.reduceMul, Int.reduceLT, Int.reduceLE, Int.reduceEq, ↓reduceIte, not_true, not_false_eq_true, not_true_eq_false, and_self, true_and, and_true, false_and, and_false, Decidable.not_not, stv1, stv2, stv3, stv4]
        rw [D2]
        simp (implicitDefEqProofs := false) (maxSteps := 1000000) (disch := omega) only [↓mm_lt_s, ↓cl_in, ↓cl_wi, ↓cl_has, ↓cl_isP, mL_le, lit_n, litL_n, mL_mI, mL_neg, mm_cl_s, mI_lt, mI_le, mI_eq, enc_at, enc_wr, enc_cp, mI_neg, mI_add, mI_sub, mI_mul, mI_ix, mm_ck_ok, mm_nz_ok, mm_bo_c, mm_bo_m0, mm_bo_m1, b01, Int.toNat_natCast, Int.reduceToNat, Int.reduceNeg, Int.reduceSub, Int.reduceAdd, Int.reduceMul, Int.reduceLT, Int.reduceLE, Int.reduceEq, ↓reduceIte, not_true, not_false_eq_true, not_true_eq_false, and_self, true_and, and_true, false_and, and_false, Decidable.not_not, stv1, stv2, stv3, stv4]
        rw [K2]
        simp (implicitDefEqProofs := false) (maxSteps := 1000000) (disch := omega) only [↓mm_lt_s, ↓cl_in, ↓cl_wi, ↓cl_has, ↓cl_isP, mL_le, lit_n, litL_n, mL_mI, mL_neg, mm_cl_s, mI_lt, mI_le, mI_eq, enc_at, enc_wr, enc_cp, mI_neg, mI_add, mI_sub, mI_mul, mI_ix, mm_ck_ok, mm_nz_ok, mm_bo_c, mm_bo_m0, mm_bo_m1, b01, Int.toNat_natCast, Int.reduceToNat, Int.reduceNeg, Int.reduceSub, Int.reduceAdd, Int.reduceMul, Int.reduceLT, Int.reduceLE, Int.reduceEq, ↓reduceIte, not_true, not_false_eq_true, not_true_eq_false, and_self, true_and, and_true, false_and, and_false, Decidable.not_not, stv1, stv2, stv3, stv4]
        rw [N3]
        simp (implicitDefEqProofs := false) (maxSteps := 1000000) (disch := omega) only [↓mm_lt_s, ↓cl_in, ↓cl_wi, ↓cl_has, ↓cl_isP, mL_le, lit_n, litL_n, mL_mI, mL_neg, mm_cl_s, mI_lt, mI_le, mI_eq, enc_at, enc_wr, enc_cp, mI_neg, mI_add, mI_sub, mI_mul, mI_ix, mm_ck_ok, mm_nz_ok, mm_bo_c, mm_bo_m0, mm_bo_m1, b01, Int.toNat_natCast, Int.reduceToNat, Int.reduceNeg, Int.reduceSub, Int.reduceAdd, Int.reduceMul, Int.reduceLT, Int.reduceLE, Int.reduceEq, ↓reduceIte, not_true, not_false_eq_true, not_true_eq_false, and_self, true_and, and_true, false_and, and_false, Decidable.not_not, stv1, stv2, stv3, stv4]
theorem idX_L {K : Mm → Aa} {z : Int32 → Mm → Aa} {n : Nat} (hn : n ≤ 6) : ∀ (d i N : Nat) (σ : IM), i + d = n → d < N → σ 44 0 = (n : Int) → mm_lk z (fX1_findRow_L9 K) N (mI i) (enc σ) = K (enc (ifl σ 47 i n (fun b => (b : Int))))
  | d, i, 0, σ, _, h, _ => absurd h (Nat.not_lt_zero d)
  | 0, i, N + 1, σ, h, _, h0 => by
    rw [mm_lk_s, fX1_findRow_L9, ifl_nil (by omega)]
    simp (implicitDefEqProofs := false) (maxSteps := 1000000) (disch := omega) only [h0, ↓mm_lt_s, ↓cl_in, ↓cl_wi, ↓cl_has, ↓cl_isP, mL_le, lit_n, litL_n, mL_mI, mL_neg, mm_cl_s, mI_lt, mI_le, mI_eq, enc_at, enc_wr, enc_cp, mI_neg, mI_add, mI_sub, mI_mul, mI_ix, mm_ck_ok, mm_nz_ok, mm_bo_c, mm_bo_m0, mm_bo_m1, b01, Int.toNat_natCast, Int.reduceToNat, Int.reduceNeg, Int.reduceSub, Int.reduceAdd, Int.reduceMul, Int.reduceLT, Int.reduceLE, Int.reduceEq, ↓reduceIte, not_true, not_false_eq_true, not_true_eq_false, and_self, true_and, and_true, false_and, and_false, Decidable.not_not, stv1, stv2, stv3, stv4]
    repeat (first | rw [if_pos (by omega)] | rw [if_neg (by omega)])
  | d + 1, i, N + 1, σ, h, h2, h0 => by
    have c1 : ¬ (n : Int) ≤ (i : Int) := by omega
    rw [← ifl_step (f := fun b => ((b : Nat) : Int)) (v := (i : Int)) (show i < n by omega) rfl, ← idX_L (K := K) (z := z) hn d (i + 1) N _ (by omega) (by omega) (by rw [iw_ne (by omega)]; exact h0), mm_lk_s, fX1_findRow_L9]
    simp (implicitDefEqProofs := false) (maxSteps := 1000000) (disch := omega) only [h0, c1, cast_s, ↓mm_lt_s, ↓cl_in, ↓cl_wi, ↓cl_has, ↓cl_isP, mL_le, lit_n, litL_n, mL_mI, mL_neg, mm_cl_s, mI_lt, mI_le, mI_eq, enc_at, enc_wr, enc_cp, mI_neg, mI_add, mI_sub, mI_mul, mI_ix, mm_ck_ok, mm_nz_ok, mm_bo_c, mm_bo_m0, mm_bo_m1, b01, Int.toNat_natCast, Int.reduceToNat, Int.reduceNeg, Int.reduceSub, Int.reduceAdd, Int.reduceMul, Int.reduceLT, Int.reduceLE, Int.reduceEq, ↓reduceIte, not_true, not_false_eq_true, not_true_eq_false, and_self, true_and, and_true, false_and, and_false, Decidable.not_not, stv1, stv2, stv3, stv4]
theorem idM_L {K : Mm → Aa} {z : Int32 → Mm → Aa} : ∀ (d i N : Nat) (τ : IM), i + d = 6 → d < N → mm_lk z (fX7_order_L43 K) N (mI i) (enc τ) = K (enc (ifl τ 20 i 6 (fun b => (b : Int))))
  | d, i, 0, τ, _, h => absurd h (Nat.not_lt_zero d)
  | 0, i, N + 1, τ, h, _ => by
    rw [mm_lk_s, fX7_order_L43, ifl_nil (by omega)]
    simp (implicitDefEqProofs := false) (maxSteps := 1000000) (disch := omega) only [↓mm_lt_s, ↓cl_in, ↓cl_wi, ↓cl_has, ↓cl_isP, mL_le, lit_n, litL_n, mL_mI, mL_neg, mm_cl_s, mI_lt, mI_le, mI_eq, enc_at, enc_wr, enc_cp, mI_neg, mI_add, mI_sub, mI_mul, mI_ix, mm_ck_ok, mm_nz_ok, mm_bo_c, mm_bo_m0, mm_bo_m1, b01, Int.toNat_natCast, Int.reduceToNat, Int.reduceNeg, Int.reduceSub, Int.reduceAdd, Int.reduceMul, Int.reduceLT, Int.reduceLE, Int.reduceEq, ↓reduceIte, not_true, not_false_eq_true, not_true_eq_false, and_self, true_and, and_true, false_and, and_false, Decidable.not_not, stv1, stv2, stv3, stv4]
    repeat (first | rw [if_pos (by omega)] | rw [if_neg (by omega)])
  | d + 1, i, N + 1, τ, h, h2 => by
    have c1 : ¬ (6 : Int) ≤ (i : Int) := by omega
    rw [← ifl_step (f := fun b => ((b : Nat) : Int)) (v := (i : Int)) (show i < 6 by omega) rfl, ← idM_L (K := K) (z := z) d (i + 1) N _ (by omega) (by omega), mm_lk_s, fX7_order_L43]
    simp (implicitDefEqProofs := false) (maxSteps := 1000000) (disch := omega) only [c1, cast_s, ↓mm_lt_s, ↓cl_in, ↓cl_wi, ↓cl_has, ↓cl_isP, mL_le, lit_n, litL_n, mL_mI, mL_neg, mm_cl_s, mI_lt, mI_le, mI_eq, enc_at, enc_wr, enc_cp, mI_neg, mI_add, mI_sub, mI_mul, mI_ix, mm_ck_ok, mm_nz_ok, mm_bo_c, mm_bo_m0, mm_bo_m1, b01, Int.toNat_natCast, Int.reduceToNat, Int.reduceNeg, Int.reduceSub, Int.reduceAdd, Int.reduceMul, Int.reduceLT, Int.reduceLE, Int.reduceEq, ↓reduceIte, not_true, not_false_eq_true, not_true_eq_false, and_self, true_and, and_true, false_and, and_false, Decidable.not_not, stv1, stv2, stv3, stv4]
theorem orEnds {n : Nat} (hn : 1 ≤ n ∧ n ≤ 6) : ∃ f c, (f ≤ 1000 ∧ ∀ k, k < 6 → dg c k = k) ∧ ends (nxP n) (okP n) f c = true := ⟨1000, en6 (fun k => k), ⟨Nat.le_refl _, dg_en (r := fun k => k) (by decide) (by decide) (by decide) (by decide) (by decide) (by decide)⟩, ends_P n (Nat.lt_succ_of_le hn.2) hn.1⟩
theorem findRX {σ σ1 σ' : IM} {n fl : Nat} {gap : Int} (hn : n ≤ 6) (hfl : fl ≤ 1000) (B : fX1_begin (enc σ) = some (mI 0, enc σ1)) (q4 : σ1 44 0 = (n : Int)) (i4 : ∀ (N : Nat), fl < N → ∀ (K1 K2 : Mm → Aa) (z : Int32 → Mm → Aa), mm_lk z (fX1_findRow_L36 (mI gap) K1 K2) N (mI 0) (enc (ifl σ1 47 0 n (fun b => (b : Int)))) = K2 (enc σ')) : fX1_findRow (mI gap) (enc σ) = some (mI 0, enc σ') := by
  have ZX := fun K z NF (hNF : n < NF) => idX_L (K := K) (z := z) hn n 0 NF σ1 (by omega) hNF q4
  rw [cast0] at ZX
  unfold fX1_findRow
  generalize hfu : mm_fu = NF; have hNF : 4096 ≤ NF := by rw [← hfu]; exact Nat.le_refl _
  rw [B, mm_cl_s, mm_lt_s, mm_lt_s]
  refine Eq.trans (ZX _ (fun _ _ => none) NF (by omega)) ?_
  rw [mm_lt_s, mm_lt_s, mm_lt_s]
  exact i4 NF (by omega) _ _ _
theorem orFind {σ τ : IM} {n : Nat} {w : Nat → Nat} {gap : Int} (hg : 0 ≤ gap ∧ gap ≤ 60) (h : RX σ τ) (hn : 1 ≤ n ∧ n ≤ 6) (h0 : σ 44 0 = (n : Int)) (h29 : τ 0 29 = (n : Int)) (hw : ∀ k, k < n → ((w k : Nat) : Int) < τ 0 1 ∧ σ 46 k = (w k : Int) ∧ τ 19 k = (w k : Int)) : ∃ σ' τ' : IM, fX1_findRow (mI gap) (enc σ) = some (mI 0, enc σ') ∧ (∀ NF, 4096 ≤ NF → ∀ K z z2, mm_lk z (fX7_order_L43 (fun m7 => mm_lk z2 (fX7_order_L73 (mI gap) K) NF (mI 1) (mm_wr m7 0 33 (mI (-1))))) NF (mI 0) (enc τ) = K (enc τ')) ∧ QL σ' τ' n w ∧ BR σ' τ' n ∧ τ' 0 33 ≠ -1 := by
  have B := onceX h hn.2 h0 (fun k hk => ⟨(hw k hk).1, (hw k hk).2.1⟩)
  have R0 : ∀ k, k < n → onceF n w σ (34 + k) 6 = (k : Int) ∧ onceF n w σ (34 + k) 7 = 0 := fun k hk => by
    have := (hw k hk).1
    have := h.now
    rw [onceF_row hk hn.2 (by omega), onceF_row hk hn.2 (by omega)]
    exact ⟨rfl, rfl⟩
  obtain ⟨Q, b2, b3⟩ := QL.mk0 h hn h0 h29 hw
  generalize onceF n w σ = σ1 at *
  have q4 := Q.2.1.2.2.1
  have Q1 : QL (ifl σ1 47 0 n (fun b => (b : Int))) (iw (ifl τ 20 0 6 (fun b => (b : Int))) 0 33 (-1)) n w := Q.cong (fun a b hh => ifl_ne (by unfold keepX at hh; omega)) (fun a b hh => by rw [iw_ne (by unfold keepM at hh; omega), ifl_ne (by unfold keepM at hh; omega)])
  obtain ⟨fl, c, ⟨hfl, hdg⟩, hE⟩ := orEnds hn
  obtain ⟨σ', τ', i1, i2, i3, i4, i5⟩ := orLoop (n := n) (w := w) hg fl c 0 (ifl σ1 47 0 n (fun b => (b : Int))) (iw (ifl τ 20 0 6 (fun b => (b : Int))) 0 33 (-1)) hE (by omega) Q1 (fun k hk => by
    rw [ifl_ne (by omega), ifl_ne (by omega)]
    exact R0 k hk) (fun k hk => by
    rw [ifl_in (by omega) hk, iw_ne (by omega), ifl_in (by omega) (by omega), hdg k (by omega)]
    exact ⟨rfl, rfl⟩) (Or.inl ⟨by rw [iw_eq rfl rfl], by rw [ifl_ne (by omega)]; exact b2, by rw [ifl_ne (by omega)]; exact b3⟩)
  have ZM := fun K z NF (hNF : 6 < NF) => idM_L (K := K) (z := z) 6 0 NF τ (by omega) hNF
  rw [cast0] at ZM
  rw [cast0] at i4
  refine ⟨σ', τ', findRX hn.2 hfl B q4 i4, fun NF hNF K z z2 => ?_, i1, i2, i3⟩
  rw [ZM _ _ NF (by omega), enc_wr]
  exact i5 NF (by omega) K z2
