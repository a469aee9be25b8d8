/-! days: the reference's days follow the class's -/
def nightM (t : Int) (τ : IM) : IM := if 0 < t ∧ t - t / 240 * 240 = 0 then iw τ 0 23 (if 1 < τ 0 23 - τ 2 3 then τ 0 23 - τ 2 3 else 1) else τ
theorem goTo1 {τ τ2 τ3 : IM} {t last : Int} {N : Nat} {K : Mm → Aa} {z : Int32 → Mm → Aa} {τ1 : IM} (ht : 0 ≤ t ∧ t ≤ last) (hl : last ≤ 999) (h23 : 1 ≤ τ 0 23 ∧ τ 0 23 ≤ 400) (hL : 0 ≤ τ 2 3 ∧ τ 2 3 ≤ 500) (h1 : fX7_goOn (enc (nightM t τ)) = some (mI 0, enc τ1)) (h2 : fX7_stepOff (mI t) (enc τ1) = some (mI 0, enc τ2)) (h3 : fX7_startAll (mI t) (enc τ2) = some (mI 0, enc τ3)) : mm_lk z (fX7_goTo_L2 (mI last) K) (N + 1) (mI t) (enc τ) = mm_lk z (fX7_goTo_L2 (mI last) K) N (mI (t + 1)) (enc τ3) := by
  have c0 : ¬ last < t := by omega
  unfold nightM at h1
  rw [mm_lk_s, fX7_goTo_L2]
  by_cases c1 : t ≤ 0
  · rw [if_neg (by omega)] at h1
    simp (implicitDefEqProofs := false) (maxSteps := 1000000) (disch := omega) only [c0, c1, ↓mm_lt_s, ↓cl_in, ↓cl_wi, ↓cl_has, ↓cl_isP, mL_le, lit_n, litL_n, mL_mI, mL_neg, mm_cl_s, mI_lt, mI_le, mI_eq, enc_at, enc_wr, enc_cp, mI_neg, mI_add, mI_sub, mI_mul, mI_ix, mm_ck_ok, mm_nz_ok, mm_bo_c, mm_bo_m0, mm_bo_m1, b01, Int.toNat_natCast, Int.reduceToNat, Int.reduceNeg, Int.reduceSub, Int.reduceAdd, Int.reduceMul, Int.reduceLT, Int.reduceLE, Int.reduceEq, ↓reduceIte, not_true, not_false_eq_true, not_true_eq_false, and_self, true_and, and_true, false_and, and_false, Decidable.not_not, stv1, stv2, stv3, stv4]
    rw [h1]
    simp (implicitDefEqProofs := false) (maxSteps := 1000000) (disch := omega) only [↓mm_lt_s, ↓cl_in, ↓cl_wi, ↓cl_has, ↓cl_isP, mL_le, lit_n, litL_n, mL_mI, mL_neg, mm_cl_s, mI_lt, mI_le, mI_eq, enc_at, enc_wr, enc_cp, mI_neg, mI_add, mI_sub, mI_mul, mI_ix, mm_ck_ok, mm_nz_ok, mm_bo_c, mm_bo_m0, mm_bo_m1, b01, Int.toNat_natCast, Int.reduceToNat, Int.reduceNeg, Int.reduceSub, Int.reduceAdd, Int.reduceMul, Int.reduceLT, Int.reduceLE, Int.reduceEq, ↓reduceIte, not_true, not_false_eq_true, not_true_eq_false, and_self, true_and, and_true, false_and, and_false, Decidable.not_not, stv1, stv2, stv3, stv4]
    rw [h2]
    simp (implicitDefEqProofs := false) (maxSteps := 1000000) (disch := omega) only [↓mm_lt_s, ↓cl_in, ↓cl_wi, ↓cl_has, ↓cl_isP, mL_le, lit_n, litL_n, mL_mI, mL_neg, mm_cl_s, mI_lt, mI_le, mI_eq, enc_at, enc_wr, enc_cp, mI_neg, mI_add, mI_sub, mI_mul, mI_ix, mm_ck_ok, mm_nz_ok, mm_bo_c, mm_bo_m0, mm_bo_m1, b01, Int.toNat_natCast, Int.reduceToNat, Int.reduceNeg, Int.reduceSub, Int.reduceAdd, Int.reduceMul, Int.reduceLT, Int.reduceLE, Int.reduceEq, ↓reduceIte, not_true, not_false_eq_true, not_true_eq_false, and_self, true_and, and_true, false_and, and_false, Decidable.not_not, stv1, stv2, stv3, stv4]
    rw [h3]
    simp (implicitDefEqProofs := false) (maxSteps := 1000000) (disch := omega) only [↓mm_lt_s, ↓cl_in, ↓cl_wi, ↓cl_has, ↓cl_isP, mL_le, lit_n, litL_n, mL_mI, mL_neg, mm_cl_s, mI_lt, mI_le, mI_eq, enc_at, enc_wr, enc_cp, mI_neg, mI_add, mI_sub, mI_mul, mI_ix, mm_ck_ok, mm_nz_ok, mm_bo_c, mm_bo_m0, mm_bo_m1, b01, Int.toNat_natCast, Int.reduceToNat, Int.reduceNeg, Int.reduceSub, Int.reduceAdd, Int.reduceMul, Int.reduceLT, Int.reduceLE, Int.reduceEq, ↓reduceIte, not_true, not_false_eq_true, not_true_eq_false, and_self, true_and, and_true, false_and, and_false, Decidable.not_not, stv1, stv2, stv3, stv4]
  · by_cases c2 : t - t / 240 * 240 = 0
    · rw [if_pos ⟨by omega, c2⟩] at h1
      have e : (if τ 0 23 - τ 2 3 < 1 then 1 else τ 0 23 - τ 2 3) = (if 1 < τ 0 23 - τ 2 3 then τ 0 23 - τ 2 3 else 1) := by
        split <;> split <;> omega
      simp (implicitDefEqProofs := false) (maxSteps := 1000000) (disch := omega) only [c0, c1, mI_div, eq_true c2, most_s, ↓mm_lt_s, ↓cl_in, ↓cl_wi, ↓cl_has, ↓cl_isP, mL_le, lit_n, litL_n, mL_mI, mL_neg, mm_cl_s, mI_lt, mI_le, mI_eq, enc_at, enc_wr, enc_cp, mI_neg, mI_add, mI_sub, mI_mul, mI_ix, mm_ck_ok, mm_nz_ok, mm_bo_c, mm_bo_m0, mm_bo_m1, b01, Int.toNat_natCast, Int.reduceToNat, Int.reduceNeg, Int.reduceSub, Int.reduceAdd, Int.reduceMul, Int.reduceLT, Int.reduceLE, Int.reduceEq, ↓reduceIte, not_true, not_false_eq_true, not_true_eq_false, and_self, true_and, and_true, false_and, and_false, Decidable.not_not, stv1, stv2, stv3, stv4]
      rw [e, h1]
      simp (implicitDefEqProofs := false) (maxSteps := 1000000) (disch := omega) only [↓mm_lt_s, ↓cl_in, ↓cl_wi, ↓cl_has, ↓cl_isP, mL_le, lit_n, litL_n, mL_mI, mL_neg, mm_cl_s, mI_lt, mI_le, mI_eq, enc_at, enc_wr, enc_cp, mI_neg, mI_add, mI_sub, mI_mul, mI_ix, mm_ck_ok, mm_nz_ok, mm_bo_c, mm_bo_m0, mm_bo_m1, b01, Int.toNat_natCast, Int.reduceToNat, Int.reduceNeg, Int.reduceSub, Int.reduceAdd, Int.reduceMul, Int.reduceLT, Int.reduceLE, Int.reduceEq, ↓reduceIte, not_true, not_false_eq_true, not_true_eq_false, and_self, true_and, and_true, false_and, and_false, Decidable.not_not, stv1, stv2, stv3, stv4]
      rw [h2]
      simp (implicitDefEqProofs := false) (maxSteps := 1000000) (disch := omega) only [↓mm_lt_s, ↓cl_in, ↓cl_wi, ↓cl_has, ↓cl_isP, mL_le, lit_n, litL_n, mL_mI, mL_neg, mm_cl_s, mI_lt, mI_le, mI_eq, enc_at, enc_wr, enc_cp, mI_neg, mI_add, mI_sub, mI_mul, mI_ix, mm_ck_ok, mm_nz_ok, mm_bo_c, mm_bo_m0, mm_bo_m1, b01, Int.toNat_natCast, Int.reduceToNat, Int.reduceNeg, Int.reduceSub, Int.reduceAdd, Int.reduceMul, Int.reduceLT, Int.reduceLE, Int.reduceEq, ↓reduceIte, not_true, not_false_eq_true, not_true_eq_false, and_self, true_and, and_true, false_and, and_false, Decidable.not_not, stv1, stv2, stv3, stv4]
      rw [h3]
      simp (implicitDefEqProofs := false) (maxSteps := 1000000) (disch := omega) only [↓mm_lt_s, ↓cl_in, ↓cl_wi, ↓cl_has, ↓cl_isP, mL_le, lit_n, litL_n, mL_mI, mL_neg, mm_cl_s, mI_lt, mI_le, mI_eq, enc_at, enc_wr, enc_cp, mI_neg, mI_add, mI_sub, mI_mul, mI_ix, mm_ck_ok, mm_nz_ok, mm_bo_c, mm_bo_m0, mm_bo_m1, b01, Int.toNat_natCast, Int.reduceToNat, Int.reduceNeg, Int.reduceSub, Int.reduceAdd, Int.reduceMul, Int.reduceLT, Int.reduceLE, Int.reduceEq, ↓reduceIte, not_true, not_false_eq_true, not_true_eq_false, and_self, true_and, and_true, false_and, and_false, Decidable.not_not, stv1, stv2, stv3, stv4]
    · rw [if_neg (fun x => c2 x.2)] at h1
      simp (implicitDefEqProofs := false) (maxSteps := 1000000) (disch := omega) only [c0, c1, mI_div, c2, ↓mm_lt_s, ↓cl_in, ↓cl_wi, ↓cl_has, ↓cl_isP, mL_le, lit_n, litL_n, mL_mI, mL_neg, mm_cl_s, mI_lt, mI_le, mI_eq, enc_at, enc_wr, enc_cp, mI_neg, mI_add, mI_sub, mI_mul, mI_ix, mm_ck_ok, mm_nz_ok, mm_bo_c, mm_bo_m0, mm_bo_m1, b01, Int.toNat_natCast, Int.reduceToNat, Int.reduceNeg, Int.reduceSub, Int.reduceAdd, Int.reduceMul, Int.reduceLT, Int.reduceLE, Int.reduceEq, ↓reduceIte, not_true, not_false_eq_true, not_true_eq_false, and_self, true_and, and_true, false_and, and_false, Decidable.not_not, stv1, stv2, stv3, stv4]
      rw [h1]
      simp (implicitDefEqProofs := false) (maxSteps := 1000000) (disch := omega) only [↓mm_lt_s, ↓cl_in, ↓cl_wi, ↓cl_has, ↓cl_isP, mL_le, lit_n, litL_n, mL_mI, mL_neg, mm_cl_s, mI_lt, mI_le, mI_eq, enc_at, enc_wr, enc_cp, mI_neg, mI_add, mI_sub, mI_mul, mI_ix, mm_ck_ok, mm_nz_ok, mm_bo_c, mm_bo_m0, mm_bo_m1, b01, Int.toNat_natCast, Int.reduceToNat, Int.reduceNeg, Int.reduceSub, Int.reduceAdd, Int.reduceMul, Int.reduceLT, Int.reduceLE, Int.reduceEq, ↓reduceIte, not_true, not_false_eq_true, not_true_eq_false, and_self, true_and, and_true, false_and, and_false, Decidable.not_not, stv1, stv2, stv3, stv4]
      rw [h2]
      simp (implicitDefEqProofs := false) (maxSteps := 1000000) (disch := omega) only [↓mm_lt_s, ↓cl_in, ↓cl_wi, ↓cl_has, ↓cl_isP, mL_le, lit_n, litL_n, mL_mI, mL_neg, mm_cl_s, mI_lt, mI_le, mI_eq, enc_at, enc_wr, enc_cp, mI_neg, mI_add, mI_sub, mI_mul, mI_ix, mm_ck_ok, mm_nz_ok, mm_bo_c, mm_bo_m0, mm_bo_m1, b01, Int.toNat_natCast, Int.reduceToNat, Int.reduceNeg, Int.reduceSub, Int.reduceAdd, Int.reduceMul, Int.reduceLT, Int.reduceLE, Int.reduceEq, ↓reduceIte, not_true, not_false_eq_true, not_true_eq_false, and_self, true_and, and_true, false_and, and_false, Decidable.not_not, stv1, stv2, stv3, stv4]
      rw [h3]
      simp (implicitDefEqProofs := false) (maxSteps := 1000000) (disch := omega) only [↓mm_lt_s, ↓cl_in, ↓cl_wi, ↓cl_has, ↓cl_isP, mL_le, lit_n, litL_n, mL_mI, mL_neg, mm_cl_s, mI_lt, mI_le, mI_eq, enc_at, enc_wr, enc_cp, mI_neg, mI_add, mI_sub, mI_mul, mI_ix, mm_ck_ok, mm_nz_ok, mm_bo_c, mm_bo_m0, mm_bo_m1, b01, Int.toNat_natCast, Int.reduceToNat, Int.reduceNeg, Int.reduceSub, Int.reduceAdd, Int.reduceMul, Int.reduceLT, Int.reduceLE, Int.reduceEq, ↓reduceIte, not_true, not_false_eq_true, not_true_eq_false, and_self, true_and, and_true, false_and, and_false, Decidable.not_not, stv1, stv2, stv3, stv4]
theorem sim {σ τ : IM} {m : Nat} {t : Int} (ht : 0 ≤ t ∧ t ≤ 999) (hX : XI σ m t) (hG : DG σ τ m) (hW : DW σ τ m (fun _ => t) t) : ∃ τ' : IM, (∀ a b, frM a b → τ' a b = τ a b) ∧ DG (minF t m σ) τ' m ∧ DW (minF t m σ) τ' m (fun _ => t + 1) (t + 1) ∧ ∀ last, t ≤ last → last ≤ 999 → ∀ (N : Nat) (K : Mm → Aa) (z : Int32 → Mm → Aa), mm_lk z (fX7_goTo_L2 (mI last) K) (N + 1) (mI t) (enc τ) = mm_lk z (fX7_goTo_L2 (mI last) K) N (mI (t + 1)) (enc τ') := by
  obtain ⟨⟨g1, g2, hm⟩, g3, g4, g5, g6, gL, g7, g8, g9⟩ := id hG
  have l3 := gL 3 (by omega) (by omega)
  have q25 := hX.1.2.2.2.2.1
  -- the night
  have n3 : nightF t σ 30 3 = nightM t τ 0 23 ∧ 1 ≤ nightM t τ 0 23 ∧ nightM t τ 0 23 ≤ 400 := by
    unfold nightF nightM
    by_cases c : 0 < t ∧ t - t / 240 * 240 = 0
    · rw [if_pos c, if_pos c, iw_eq rfl rfl, iw_eq rfl rfl, g3.1, l3.1]
      refine ⟨rfl, ?_⟩
      split <;> omega
    · rw [if_neg c, if_neg c]
      exact g3
  have nx : ∀ a b, ¬ (a = 30 ∧ b = 3) → nightF t σ a b = σ a b := fun a b => nightF_ne
  have nm : ∀ a b, ¬ (a = 0 ∧ b = 23) → nightM t τ a b = τ a b := fun a b h => by
    unfold nightM
    split
    · exact iw_ne h
    · rfl
  have G1 : DG (nightF t σ) (nightM t τ) m := by
    refine ⟨⟨?_, ?_, hm⟩, n3, ?_, ?_, ?_, fun j hj hj1 => ?_, ?_, ?_, fun l hl => ?_⟩
    · rw [nx _ _ (by omega)]; exact g1
    · rw [nm _ _ (by omega)]; exact g2
    · rw [nx _ _ (by omega), nm _ _ (by omega)]; exact g4
    · rw [nx _ _ (by omega), nm _ _ (by omega)]; exact g5
    · rw [nx _ _ (by omega), nm _ _ (by omega)]; exact g6
    · rw [nx _ _ (by omega), nm _ _ (by omega)]; exact gL j hj hj1
    · rw [nx _ _ (by omega), nm _ _ (by omega)]; exact g7
    · rw [nx _ _ (by omega), nx _ _ (by omega), nm _ _ (by omega), nm _ _ (by omega), nm _ _ (by omega)]; exact g8
    · rw [nm _ _ (by omega)]; exact g9 l hl
  have W1 : DW (nightF t σ) (nightM t τ) m (fun _ => t) t := fun p hp => by
    obtain ⟨q1, q2⟩ := hW p hp
    rw [show nightF t σ (34 + p) = σ (34 + p) from funext fun b => nx _ _ (by omega), show (fun j => nightM t τ 1 (7 * p + j)) = (fun j => τ 1 (7 * p + j)) from funext fun j => nm _ _ (by omega)]
    exact ⟨q1.cong (fun b _ => nx _ _ (by omega)) (fun j => nm _ _ (by omega)) (nm _ _ (by omega)), q2.cy (fun a h5 h6 => nm _ _ (by omega))⟩
  have x5 : nightF t σ 30 5 = σ 30 5 := nx _ _ (by omega)
  have gt := fun (last : Int) (hl : t ≤ last) (h9 : last ≤ 999) (τ1 τ2 τ3 : IM) (N : Nat) (K : Mm → Aa) (z : Int32 → Mm → Aa) => goTo1 (τ := τ) (τ1 := τ1) (τ2 := τ2) (τ3 := τ3) (t := t) (last := last) (N := N) (K := K) (z := z) ⟨ht.1, hl⟩ h9 g3.2 (by omega)
  unfold minF
  generalize nightF t σ = σ1 at *
  generalize nightM t τ = τ1 at *
  -- the walk
  obtain ⟨⟨a1, a2, -⟩, a3, a4, a5, a6, aL, a7, a8, a9⟩ := id G1
  have E1 := goOn_s (τ := τ1) (m := m) hm a2 a3.2 (fun p hp => (W1 p hp).2.WM)
  generalize hτ2 : eachM τ1 0 m (goR τ1) = τ2 at *
  have k1 : ∀ p, p < m → ∀ a, 5 ≤ a → a ≤ 17 → τ2 a p = goR τ1 p a := fun p hp a h5 h6 => by rw [← hτ2, eachM_in ⟨h5, h6⟩ (by omega) hp]
  have k2 : ∀ a b, ¬ ((5 ≤ a ∧ a ≤ 17) ∧ b < m) → τ2 a b = τ1 a b := fun a b h => by rw [← hτ2, eachM_ne (by omega)]
  have k3 : ∀ p, τ2 16 p = τ1 16 p := fun p => by
    by_cases c : p < m
    · rw [k1 p c 16 (by omega) (by omega)]
      unfold goR
      split <;> rfl
    · exact k2 _ _ (by omega)
  have G2 : DG (walkF m σ1) τ2 m := G1.cong (fun a b h => walkF_ne (by omega)) (fun a b h => k2 _ _ (by omega))
  have W2 : DW (walkF m σ1) τ2 m (fun _ => t) t := fun p hp => by
    obtain ⟨q1, q2⟩ := W1 p hp
    have e2 : WD (walkR σ1 p) (goR τ1 p) (fun j => τ1 1 (7 * p + j)) t t := WD.walk (fun _ => rfl) (fun _ => rfl) q2 a3.1 a3.2
    rw [walkR_r] at e2
    rw [walkF_row hp, show (fun j => τ2 1 (7 * p + j)) = (fun j => τ1 1 (7 * p + j)) from funext fun j => k2 _ _ (by omega)]
    refine ⟨q1.cong (fun b hb => ?_) (fun j => k2 _ _ (by omega)) (k3 p), e2.cy (fun a h5 h6 => k1 p hp a h5 (by omega))⟩
    rw [walkF_row hp]
    unfold wlkR
    split
    · rw [if_neg (by omega), if_neg (by omega)]
    · rfl
  have x5' : walkF m σ1 30 5 = σ1 30 5 := walkF_ne (by omega)
  generalize walkF m σ1 = σ2 at *
  -- the step off
  obtain ⟨⟨b1, b2, -⟩, b3, b4, b5, b6, bL, b7, b8, b9⟩ := id G2
  have bl0 := bL 0 (by omega) (by omega)
  have bl2 := bL 2 (by omega) (by omega)
  obtain ⟨τ3, E2, c1, c2, c3, c4, c5⟩ := stepM (τ := τ2) (m := m) (t := t) hm (by omega) b2 (by omega) (by omega) (by omega) b3.2 (by omega) b9 (fun p hp => by
    obtain ⟨q1, q2⟩ := W2 p hp
    refine ⟨q2.CB q1.1 (show t ≤ 1000 by omega) (by omega) q1.2.1 q1.2.2.1, ?_, q2.2.2.2.1.2.2.2⟩
    rcases q1.2.2.2.2.2 with ⟨d1, d2, d3⟩ | ⟨q, d1, d2, d3⟩ <;> omega)
  obtain ⟨r01, r02⟩ := nF_nM (t := t) (b := 0) (by omega) G2 W2
  obtain ⟨r11, r12⟩ := nF_nM (t := t) (b := 1) (by omega) G2 W2
  rw [show 1 - 0 = 1 from rfl] at r01 r02
  rw [show 1 - 1 = 0 from rfl] at r11 r12
  rw [← r01, ← r11, Int.add_comm (nF m t 1 σ2) (nF m t 0 σ2)] at c3 c4
  have c16 : ∀ p, τ3 16 p = τ2 16 p := fun p => by
    by_cases c : p < m
    · rw [c1 p c 16 (by omega) (by omega)]
      unfold offC
      split <;> rfl
    · exact c5 _ _ (by omega) (by omega) (by omega)
  have lb : ∀ l, l < 2 → -1000 ≤ τ3 18 l ∧ τ3 18 l ≤ 1000 := fun l hl => by
    rw [c2 l hl]
    unfold lM
    have e : eachM τ2 0 m (fun p => flC (mwF τ2 p) (fun a => τ2 a p)) 18 l = τ2 18 l := eachM_ne (by omega)
    rw [e]
    have := b9 l hl
    split <;> omega
  have m1 := nF_rng (m := m) (b := 0) (t := t) (σ := σ2) hm
  have m2 := nF_rng (m := m) (b := 1) (t := t) (σ := σ2) hm
  have m3 : 0 ≤ τ2 2 0 * (nF m t 0 σ2 + nF m t 1 σ2) := Int.mul_nonneg bl0.2.1 (by omega)
  have ox : ∀ a b, ¬ (34 ≤ a ∧ a < 34 + m) → ¬ (a = 33 ∧ b < 2) → ¬ (a = 30 ∧ (b = 3 ∨ b = 5)) → offF t m σ2 a b = σ2 a b := fun a b => offF_ne
  have G3 : DG (offF t m σ2) τ3 m := by
    refine ⟨⟨?_, ?_, hm⟩, ?_, ?_, ?_, ?_, fun j hj hj1 => ?_, ?_, fun e26 => ?_, lb⟩
    · rw [ox _ _ (by omega) (by omega) (by omega)]; exact b1
    · rw [c5 _ _ (by omega) (by omega) (by omega)]; exact b2
    · rw [offF_3, c4, b3.1, bl0.1]
      refine ⟨rfl, ?_⟩
      split <;> omega
    · rw [ox _ _ (by omega) (by omega) (by omega), c5 _ _ (by omega) (by omega) (by omega)]; exact b4
    · rw [ox _ _ (by omega) (by omega) (by omega), c5 _ _ (by omega) (by omega) (by omega)]; exact b5
    · rw [offF_5, c3, b6]
    · rw [ox _ _ (by omega) (by omega) (by omega), c5 _ _ (by omega) (by omega) (by omega)]; exact bL j hj hj1
    · rw [ox _ _ (by omega) (by omega) (by omega), c5 _ _ (by omega) (by omega) (by omega)]; exact b7
    · rw [c5 _ _ (by omega) (by omega) (by omega)] at e26
      rw [offF_33 (by omega), offF_33 (by omega), c2 _ (by omega), c2 _ (by omega), r02 e26, r12 e26]
      exact ⟨rfl, rfl⟩
  have W3 : DW (offF t m σ2) τ3 m (fun _ => t) (t + 1) := fun p hp => by
    obtain ⟨q1, q2⟩ := W2 p hp
    have e2 := WD.off (h := mwF τ2 p) q1.1 q2 ⟨ht.1, Int.le_trans ht.2 (by decide)⟩ (mwF_01 τ2 p)
    rw [offF_row hp, hv_mw hm W2 hp, show (fun j => τ3 1 (7 * p + j)) = (fun j => τ2 1 (7 * p + j)) from funext fun j => c5 _ _ (by omega) (by omega) (by omega)]
    exact ⟨q1.cong (fun b hb => by rw [offF_row hp, offR_lo hb]) (fun j => c5 _ _ (by omega) (by omega) (by omega)) (c16 p), e2.cy (fun a h5 h6 => c1 p hp a h5 (by omega))⟩
  -- the ford, the starts
  obtain ⟨τ4, f1, f2, f3, E3⟩ := ph_start ht G3 W3
  refine ⟨τ4, fun a b h => ?_, f2, f3, fun last hl h9 N K z => gt last hl h9 τ2 τ3 τ4 N K z E1 E2 E3⟩
  rw [f1 a b h]
  obtain ⟨e1, e2, e3, e4⟩ := h
  have k0 : τ2 a b = τ a b := by
    by_cases c : a = 16
    · rw [c, k3, nm _ _ (by omega)]
    · rw [k2 _ _ (by omega), nm _ _ (by omega)]
  by_cases c : a = 16
  · rw [c, c16, ← c, k0]
  · rw [c5 _ _ (by omega) (by omega) (by omega), k0]
