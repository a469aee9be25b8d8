/-! days: minutes in which nothing happens -/
def nxt (t P : Int) (x : Nat → Int) : Int := if x 8 = 1 then t + (if 1 < (P - x 12 + x 13 - 1) / x 13 then (P - x 12 + x 13 - 1) / x 13 else 1) else if x 8 = 0 ∨ x 8 = 3 then (if t + 1 < x 11 then x 11 else t + 1) else 1000
theorem nextX {σ : IM} {p : Nat} {t P u v w : Int} (ht : 0 ≤ t ∧ t ≤ 999) (hP : 1 ≤ P ∧ P ≤ 400) (h : XD (σ (34 + p)) u v w) (h1 : σ (34 + p) 8 = 1 → σ (34 + p) 12 < P) : fX5_nextTurn (34 + p) (mI t) (mI P) (enc σ) = some (mI (nxt t P (σ (34 + p))), enc σ) := by
  obtain ⟨a8, a9, a10, a11, a12, a13, a14, a15, a16, a17⟩ := h
  unfold fX5_nextTurn nxt
  by_cases c1 : σ (34 + p) 8 = 1
  · have c2 := h1 c1
    have g3 : 0 ≤ (P - σ (34 + p) 12 + σ (34 + p) 13 - 1) / σ (34 + p) 13 := Int.ediv_nonneg (by omega) (by omega)
    have g4 : (P - σ (34 + p) 12 + σ (34 + p) 13 - 1) / σ (34 + p) 13 ≤ P - σ (34 + p) 12 + σ (34 + p) 13 - 1 := Int.ediv_le_self _ (by omega)
    have e0 : ¬ (1 : Int) = 0 := by omega
    by_cases c3 : 1 < (P - σ (34 + p) 12 + σ (34 + p) 13 - 1) / σ (34 + p) 13
    · simp (implicitDefEqProofs := false) (maxSteps := 1000000) (disch := omega) only [c1, cutUp_s, c3, ↓mm_lt_s, ↓cl_in, ↓cl_wi, ↓cl_has, ↓cl_isP, mL_le, lit_n, litL_n, mL_mI, mL_neg, mm_cl_s, mI_lt, mI_le, mI_eq, enc_at, enc_wr, enc_cp, mI_neg, mI_add, mI_sub, mI_mul, mI_ix, mm_ck_ok, mm_nz_ok, mm_bo_c, mm_bo_m0, mm_bo_m1, b01, Int.toNat_natCast, Int.reduceToNat, Int.reduceNeg, Int.reduceSub, Int.reduceAdd, Int.reduceMul, Int.reduceLT, Int.reduceLE, Int.reduceEq, ↓reduceIte, not_true, not_false_eq_true, not_true_eq_false, and_self, true_and, and_true, false_and, and_false, Decidable.not_not, stv1, stv2, stv3, stv4]
    · simp (implicitDefEqProofs := false) (maxSteps := 1000000) (disch := omega) only [c1, cutUp_s, c3, ↓mm_lt_s, ↓cl_in, ↓cl_wi, ↓cl_has, ↓cl_isP, mL_le, lit_n, litL_n, mL_mI, mL_neg, mm_cl_s, mI_lt, mI_le, mI_eq, enc_at, enc_wr, enc_cp, mI_neg, mI_add, mI_sub, mI_mul, mI_ix, mm_ck_ok, mm_nz_ok, mm_bo_c, mm_bo_m0, mm_bo_m1, b01, Int.toNat_natCast, Int.reduceToNat, Int.reduceNeg, Int.reduceSub, Int.reduceAdd, Int.reduceMul, Int.reduceLT, Int.reduceLE, Int.reduceEq, ↓reduceIte, not_true, not_false_eq_true, not_true_eq_false, and_self, true_and, and_true, false_and, and_false, Decidable.not_not, stv1, stv2, stv3, stv4]
  · rw [if_neg c1]
    by_cases c0 : σ (34 + p) 8 = 0
    · rw [if_pos (Or.inl c0)]
      by_cases d : t + 1 < σ (34 + p) 11
      · simp (implicitDefEqProofs := false) (maxSteps := 1000000) (disch := omega) only [c0, d, ↓mm_lt_s, ↓cl_in, ↓cl_wi, ↓cl_has, ↓cl_isP, mL_le, lit_n, litL_n, mL_mI, mL_neg, mm_cl_s, mI_lt, mI_le, mI_eq, enc_at, enc_wr, enc_cp, mI_neg, mI_add, mI_sub, mI_mul, mI_ix, mm_ck_ok, mm_nz_ok, mm_bo_c, mm_bo_m0, mm_bo_m1, b01, Int.toNat_natCast, Int.reduceToNat, Int.reduceNeg, Int.reduceSub, Int.reduceAdd, Int.reduceMul, Int.reduceLT, Int.reduceLE, Int.reduceEq, ↓reduceIte, not_true, not_false_eq_true, not_true_eq_false, and_self, true_and, and_true, false_and, and_false, Decidable.not_not, stv1, stv2, stv3, stv4]
      · simp (implicitDefEqProofs := false) (maxSteps := 1000000) (disch := omega) only [c0, d, ↓mm_lt_s, ↓cl_in, ↓cl_wi, ↓cl_has, ↓cl_isP, mL_le, lit_n, litL_n, mL_mI, mL_neg, mm_cl_s, mI_lt, mI_le, mI_eq, enc_at, enc_wr, enc_cp, mI_neg, mI_add, mI_sub, mI_mul, mI_ix, mm_ck_ok, mm_nz_ok, mm_bo_c, mm_bo_m0, mm_bo_m1, b01, Int.toNat_natCast, Int.reduceToNat, Int.reduceNeg, Int.reduceSub, Int.reduceAdd, Int.reduceMul, Int.reduceLT, Int.reduceLE, Int.reduceEq, ↓reduceIte, not_true, not_false_eq_true, not_true_eq_false, and_self, true_and, and_true, false_and, and_false, Decidable.not_not, stv1, stv2, stv3, stv4]
    · by_cases c3 : σ (34 + p) 8 = 3
      · rw [if_pos (Or.inr c3)]
        by_cases d : t + 1 < σ (34 + p) 11
        · simp (implicitDefEqProofs := false) (maxSteps := 1000000) (disch := omega) only [c3, d, ↓mm_lt_s, ↓cl_in, ↓cl_wi, ↓cl_has, ↓cl_isP, mL_le, lit_n, litL_n, mL_mI, mL_neg, mm_cl_s, mI_lt, mI_le, mI_eq, enc_at, enc_wr, enc_cp, mI_neg, mI_add, mI_sub, mI_mul, mI_ix, mm_ck_ok, mm_nz_ok, mm_bo_c, mm_bo_m0, mm_bo_m1, b01, Int.toNat_natCast, Int.reduceToNat, Int.reduceNeg, Int.reduceSub, Int.reduceAdd, Int.reduceMul, Int.reduceLT, Int.reduceLE, Int.reduceEq, ↓reduceIte, not_true, not_false_eq_true, not_true_eq_false, and_self, true_and, and_true, false_and, and_false, Decidable.not_not, stv1, stv2, stv3, stv4]
        · simp (implicitDefEqProofs := false) (maxSteps := 1000000) (disch := omega) only [c3, d, ↓mm_lt_s, ↓cl_in, ↓cl_wi, ↓cl_has, ↓cl_isP, mL_le, lit_n, litL_n, mL_mI, mL_neg, mm_cl_s, mI_lt, mI_le, mI_eq, enc_at, enc_wr, enc_cp, mI_neg, mI_add, mI_sub, mI_mul, mI_ix, mm_ck_ok, mm_nz_ok, mm_bo_c, mm_bo_m0, mm_bo_m1, b01, Int.toNat_natCast, Int.reduceToNat, Int.reduceNeg, Int.reduceSub, Int.reduceAdd, Int.reduceMul, Int.reduceLT, Int.reduceLE, Int.reduceEq, ↓reduceIte, not_true, not_false_eq_true, not_true_eq_false, and_self, true_and, and_true, false_and, and_false, Decidable.not_not, stv1, stv2, stv3, stv4]
      · rw [if_neg (fun x => x.elim c0 c3)]
        by_cases c2 : σ (34 + p) 8 = 2
        · simp (implicitDefEqProofs := false) (maxSteps := 1000000) (disch := omega) only [c2, ↓mm_lt_s, ↓cl_in, ↓cl_wi, ↓cl_has, ↓cl_isP, mL_le, lit_n, litL_n, mL_mI, mL_neg, mm_cl_s, mI_lt, mI_le, mI_eq, enc_at, enc_wr, enc_cp, mI_neg, mI_add, mI_sub, mI_mul, mI_ix, mm_ck_ok, mm_nz_ok, mm_bo_c, mm_bo_m0, mm_bo_m1, b01, Int.toNat_natCast, Int.reduceToNat, Int.reduceNeg, Int.reduceSub, Int.reduceAdd, Int.reduceMul, Int.reduceLT, Int.reduceLE, Int.reduceEq, ↓reduceIte, not_true, not_false_eq_true, not_true_eq_false, and_self, true_and, and_true, false_and, and_false, Decidable.not_not, stv1, stv2, stv3, stv4]
        · simp (implicitDefEqProofs := false) (maxSteps := 1000000) (disch := omega) only [c0, c1, c2, c3, ↓mm_lt_s, ↓cl_in, ↓cl_wi, ↓cl_has, ↓cl_isP, mL_le, lit_n, litL_n, mL_mI, mL_neg, mm_cl_s, mI_lt, mI_le, mI_eq, enc_at, enc_wr, enc_cp, mI_neg, mI_add, mI_sub, mI_mul, mI_ix, mm_ck_ok, mm_nz_ok, mm_bo_c, mm_bo_m0, mm_bo_m1, b01, Int.toNat_natCast, Int.reduceToNat, Int.reduceNeg, Int.reduceSub, Int.reduceAdd, Int.reduceMul, Int.reduceLT, Int.reduceLE, Int.reduceEq, ↓reduceIte, not_true, not_false_eq_true, not_true_eq_false, and_self, true_and, and_true, false_and, and_false, Decidable.not_not, stv1, stv2, stv3, stv4]
theorem nxt_rng {t P u v w : Int} {x : Nat → Int} (ht : 0 ≤ t ∧ t ≤ 999) (hP : 1 ≤ P ∧ P ≤ 400) (h : XD x u v w) (h1 : x 8 = 1 → x 12 < P) : t + 1 ≤ nxt t P x ∧ nxt t P x ≤ 3000 := by
  obtain ⟨a8, a9, a10, a11, a12, a13, a14, a15, a16, a17⟩ := h
  unfold nxt
  split
  · rename_i c
    have c2 := h1 c
    have g4 : (P - x 12 + x 13 - 1) / x 13 ≤ P - x 12 + x 13 - 1 := Int.ediv_le_self _ (by omega)
    split <;> omega
  · split
    · split <;> omega
    · omega
def qmF (t P : Int) (σ : IM) : Nat → Nat → Int → Int
  | 0, _, n => n
  | d + 1, i, n => qmF t P σ d (i + 1) (if nxt t P (σ (34 + i)) < n then nxt t P (σ (34 + i)) else n)
theorem qmF_le {t P : Int} {σ : IM} : ∀ d i n, qmF t P σ d i n ≤ n ∧ ∀ p, i ≤ p → p < i + d → qmF t P σ d i n ≤ nxt t P (σ (34 + p))
  | 0, i, n => ⟨Int.le_refl n, fun p h1 h2 => by omega⟩
  | d + 1, i, n => by
    unfold qmF
    obtain ⟨h1, h2⟩ := qmF_le (t := t) (P := P) (σ := σ) d (i + 1) (if nxt t P (σ (34 + i)) < n then nxt t P (σ (34 + i)) else n)
    have h3 : (if nxt t P (σ (34 + i)) < n then nxt t P (σ (34 + i)) else n) ≤ n ∧ (if nxt t P (σ (34 + i)) < n then nxt t P (σ (34 + i)) else n) ≤ nxt t P (σ (34 + i)) := by
      split <;> omega
    refine ⟨Int.le_trans h1 h3.1, fun p h4 h5 => ?_⟩
    by_cases e : p = i
    · subst e
      exact Int.le_trans h1 h3.2
    · exact h2 p (by omega) (by omega)
theorem qmF_ge {t P : Int} {σ : IM} : ∀ d i n, t + 1 ≤ n → (∀ p, i ≤ p → p < i + d → t + 1 ≤ nxt t P (σ (34 + p))) → t + 1 ≤ qmF t P σ d i n
  | 0, _, _, h, _ => h
  | d + 1, i, n, h, hp => by
    unfold qmF
    refine qmF_ge d (i + 1) _ ?_ (fun p h1 h2 => hp p (by omega) (by omega))
    have := hp i (by omega) (by omega)
    split <;> omega
/-- who walks has planks ahead -/
def PI (σ : IM) (m : Nat) : Prop := ∀ p, p < m → σ (34 + p) 8 = 1 → σ (34 + p) 12 < σ 30 3
theorem quietX_L {K : Int32 → Mm → Aa} {z : Int32 → Int32 → Mm → Aa} {m : Nat} {t u v w : Int} {σ : IM} (hm : m ≤ 10) (ht : 0 ≤ t ∧ t ≤ 999) (hs : σ 30 6 = (m : Int)) (hP : 1 ≤ σ 30 3 ∧ σ 30 3 ≤ 400) (hR : ∀ p, p < m → XD (σ (34 + p)) u v w) (hI : PI σ m) : ∀ (d i N : Nat) (n : Int), i + d = m → d < N → (t + 1 ≤ n ∧ n ≤ 3000) → mm_lk z (fX0_quietAfter_L14 (mI t) K) N (mI n) (mI i) (enc σ) = K (mI (qmF t (σ 30 3) σ d i n)) (enc σ)
  | d, i, 0, n, _, h, _ => absurd h (Nat.not_lt_zero d)
  | 0, i, N + 1, n, h, _, _ => by
    rw [mm_lk_s, fX0_quietAfter_L14]
    simp (implicitDefEqProofs := false) (maxSteps := 1000000) (disch := omega) only [hs, ↓mm_lt_s, ↓cl_in, ↓cl_wi, ↓cl_has, ↓cl_isP, mL_le, lit_n, litL_n, mL_mI, mL_neg, mm_cl_s, mI_lt, mI_le, mI_eq, enc_at, enc_wr, enc_cp, mI_neg, mI_add, mI_sub, mI_mul, mI_ix, mm_ck_ok, mm_nz_ok, mm_bo_c, mm_bo_m0, mm_bo_m1, b01, Int.toNat_natCast, Int.reduceToNat, Int.reduceNeg, Int.reduceSub, Int.reduceAdd, Int.reduceMul, Int.reduceLT, Int.reduceLE, Int.reduceEq, ↓reduceIte, not_true, not_false_eq_true, not_true_eq_false, and_self, true_and, and_true, false_and, and_false, Decidable.not_not, stv1, stv2, stv3, stv4]
    repeat (first | rw [if_pos (by omega)] | rw [if_neg (by omega)])
    rfl
  | d + 1, i, N + 1, n, h, h2, hn => by
    have c1 : ¬ (m : Int) ≤ (i : Int) := by omega
    have NX := nextX (t := t) ht hP (hR i (by omega)) (hI i (by omega))
    have NR := nxt_rng (t := t) ht hP (hR i (by omega)) (hI i (by omega))
    have ih := quietX_L (K := K) (z := z) hm ht hs hP hR hI d (i + 1) N (if nxt t (σ 30 3) (σ (34 + i)) < n then nxt t (σ 30 3) (σ (34 + i)) else n) (by omega) (by omega) (by split <;> omega)
    have e : qmF t (σ 30 3) σ (d + 1) i n = qmF t (σ 30 3) σ d (i + 1) (if nxt t (σ 30 3) (σ (34 + i)) < n then nxt t (σ 30 3) (σ (34 + i)) else n) := rfl
    rw [e, ← ih, mm_lk_s, fX0_quietAfter_L14]
    generalize nxt t (σ 30 3) (σ (34 + i)) = nn at *
    simp (implicitDefEqProofs := false) (maxSteps := 1000000) (disch := omega) only [hs, c1, ↓mm_lt_s, ↓cl_in, ↓cl_wi, ↓cl_has, ↓cl_isP, mL_le, lit_n, litL_n, mL_mI, mL_neg, mm_cl_s, mI_lt, mI_le, mI_eq, enc_at, enc_wr, enc_cp, mI_neg, mI_add, mI_sub, mI_mul, mI_ix, mm_ck_ok, mm_nz_ok, mm_bo_c, mm_bo_m0, mm_bo_m1, b01, Int.toNat_natCast, Int.reduceToNat, Int.reduceNeg, Int.reduceSub, Int.reduceAdd, Int.reduceMul, Int.reduceLT, Int.reduceLE, Int.reduceEq, ↓reduceIte, not_true, not_false_eq_true, not_true_eq_false, and_self, true_and, and_true, false_and, and_false, Decidable.not_not, stv1, stv2, stv3, stv4]
    rw [NX]
    by_cases c : nn < n
    · simp (implicitDefEqProofs := false) (maxSteps := 1000000) (disch := omega) only [c, cast_s, ↓mm_lt_s, ↓cl_in, ↓cl_wi, ↓cl_has, ↓cl_isP, mL_le, lit_n, litL_n, mL_mI, mL_neg, mm_cl_s, mI_lt, mI_le, mI_eq, enc_at, enc_wr, enc_cp, mI_neg, mI_add, mI_sub, mI_mul, mI_ix, mm_ck_ok, mm_nz_ok, mm_bo_c, mm_bo_m0, mm_bo_m1, b01, Int.toNat_natCast, Int.reduceToNat, Int.reduceNeg, Int.reduceSub, Int.reduceAdd, Int.reduceMul, Int.reduceLT, Int.reduceLE, Int.reduceEq, ↓reduceIte, not_true, not_false_eq_true, not_true_eq_false, and_self, true_and, and_true, false_and, and_false, Decidable.not_not, stv1, stv2, stv3, stv4]
    · simp (implicitDefEqProofs := false) (maxSteps := 1000000) (disch := omega) only [c, cast_s, ↓mm_lt_s, ↓cl_in, ↓cl_wi, ↓cl_has, ↓cl_isP, mL_le, lit_n, litL_n, mL_mI, mL_neg, mm_cl_s, mI_lt, mI_le, mI_eq, enc_at, enc_wr, enc_cp, mI_neg, mI_add, mI_sub, mI_mul, mI_ix, mm_ck_ok, mm_nz_ok, mm_bo_c, mm_bo_m0, mm_bo_m1, b01, Int.toNat_natCast, Int.reduceToNat, Int.reduceNeg, Int.reduceSub, Int.reduceAdd, Int.reduceMul, Int.reduceLT, Int.reduceLE, Int.reduceEq, ↓reduceIte, not_true, not_false_eq_true, not_true_eq_false, and_self, true_and, and_true, false_and, and_false, Decidable.not_not, stv1, stv2, stv3, stv4]
/-- how many minutes are quiet behind t -/
def quF (t : Int) (m : Nat) (σ : IM) : Int := if 0 < qmF t (σ 30 3) σ m 0 ((t / 240 + 1) * 240) - t - 1 then qmF t (σ 30 3) σ m 0 ((t / 240 + 1) * 240) - t - 1 else 0
theorem quietX {m : Nat} {t u v w : Int} {σ : IM} (hm : m ≤ 10) (ht : 0 ≤ t ∧ t ≤ 999) (hs : σ 30 6 = (m : Int)) (hP : 1 ≤ σ 30 3 ∧ σ 30 3 ≤ 400) (hR : ∀ p, p < m → XD (σ (34 + p)) u v w) (hI : PI σ m) : fX0_quietAfter (mI t) (enc σ) = some (mI (quF t m σ), enc σ) ∧ (0 ≤ quF t m σ ∧ quF t m σ ≤ 240) ∧ (t + quF t m σ < (t / 240 + 1) * 240) ∧ ∀ p, p < m → 0 < quF t m σ → t + quF t m σ < nxt t (σ 30 3) (σ (34 + p)) := by
  have q0 : t + 1 ≤ (t / 240 + 1) * 240 ∧ (t / 240 + 1) * 240 ≤ t + 240 := by omega
  obtain ⟨q1, q2⟩ := qmF_le (t := t) (P := σ 30 3) (σ := σ) m 0 ((t / 240 + 1) * 240)
  have q3 := qmF_ge (t := t) (P := σ 30 3) (σ := σ) m 0 ((t / 240 + 1) * 240) q0.1 (fun p _ hp => (nxt_rng ht hP (hR p (by omega)) (hI p (by omega))).1)
  have E := fun K z N => quietX_L (K := K) (z := z) (m := m) (t := t) hm ht hs hP hR hI m 0 N ((t / 240 + 1) * 240) (by omega)
  unfold quF
  generalize qmF t (σ 30 3) σ m 0 ((t / 240 + 1) * 240) = n at *
  refine ⟨?_, ?_, ?_, fun p hp h0 => ?_⟩
  · unfold fX0_quietAfter
    generalize hfu : mm_fu = NF; have hNF : 4096 ≤ NF := by rw [← hfu]; exact Nat.le_refl _
    simp (implicitDefEqProofs := false) (maxSteps := 1000000) (disch := omega) only [mI_div, ↓mm_lt_s, ↓cl_in, ↓cl_wi, ↓cl_has, ↓cl_isP, mL_le, lit_n, litL_n, mL_mI, mL_neg, mm_cl_s, mI_lt, mI_le, mI_eq, enc_at, enc_wr, enc_cp, mI_neg, mI_add, mI_sub, mI_mul, mI_ix, mm_ck_ok, mm_nz_ok, mm_bo_c, mm_bo_m0, mm_bo_m1, b01, Int.toNat_natCast, Int.reduceToNat, Int.reduceNeg, Int.reduceSub, Int.reduceAdd, Int.reduceMul, Int.reduceLT, Int.reduceLE, Int.reduceEq, ↓reduceIte, not_true, not_false_eq_true, not_true_eq_false, and_self, true_and, and_true, false_and, and_false, Decidable.not_not, stv1, stv2, stv3, stv4]
    have E1 := E (fun (x3 : Int32) (m4 : Mm) => some (if 0 < ((x3 - (mI t)) - 1) then ((x3 - (mI t)) - 1) else 0, m4)) (fun _ _ _ => none) NF (by omega) (by omega)
    rw [cast0] at E1
    refine Eq.trans ?_ (E1.trans ?_)
    · rfl
    · by_cases c : 0 < n - t - 1
      · simp (implicitDefEqProofs := false) (maxSteps := 1000000) (disch := omega) only [c, ↓mm_lt_s, ↓cl_in, ↓cl_wi, ↓cl_has, ↓cl_isP, mL_le, lit_n, litL_n, mL_mI, mL_neg, mm_cl_s, mI_lt, mI_le, mI_eq, enc_at, enc_wr, enc_cp, mI_neg, mI_add, mI_sub, mI_mul, mI_ix, mm_ck_ok, mm_nz_ok, mm_bo_c, mm_bo_m0, mm_bo_m1, b01, Int.toNat_natCast, Int.reduceToNat, Int.reduceNeg, Int.reduceSub, Int.reduceAdd, Int.reduceMul, Int.reduceLT, Int.reduceLE, Int.reduceEq, ↓reduceIte, not_true, not_false_eq_true, not_true_eq_false, and_self, true_and, and_true, false_and, and_false, Decidable.not_not, stv1, stv2, stv3, stv4]
      · simp (implicitDefEqProofs := false) (maxSteps := 1000000) (disch := omega) only [c, ↓mm_lt_s, ↓cl_in, ↓cl_wi, ↓cl_has, ↓cl_isP, mL_le, lit_n, litL_n, mL_mI, mL_neg, mm_cl_s, mI_lt, mI_le, mI_eq, enc_at, enc_wr, enc_cp, mI_neg, mI_add, mI_sub, mI_mul, mI_ix, mm_ck_ok, mm_nz_ok, mm_bo_c, mm_bo_m0, mm_bo_m1, b01, Int.toNat_natCast, Int.reduceToNat, Int.reduceNeg, Int.reduceSub, Int.reduceAdd, Int.reduceMul, Int.reduceLT, Int.reduceLE, Int.reduceEq, ↓reduceIte, not_true, not_false_eq_true, not_true_eq_false, and_self, true_and, and_true, false_and, and_false, Decidable.not_not, stv1, stv2, stv3, stv4]
  · split <;> omega
  · split <;> omega
  · have := q2 p (by omega) (by omega)
    revert h0
    split <;> omega
