/-! soonest: the reference's companies -/
def rdF (τ : IM) (c : Int) : Nat → Nat → Int → Int
  | 0, _, f => f
  | d + 1, i, f => rdF τ c d (i + 1) (if f = 1 ∨ (τ 20 i = c ∧ τ 22 i < 0) then 1 else 0)
def alF (τ : IM) (c : Int) : Nat → Nat → Int → Int
  | 0, _, f => f
  | d + 1, i, f => alF τ c d (i + 1) (if f = 1 ∧ (¬ τ 20 i = c ∨ τ 8 i = 1) then 1 else 0)
def onF (τ : IM) (w : Nat → Nat) (c : Int) : Nat → Nat → Int → Int
  | 0, _, f => f
  | d + 1, i, f => onF τ w c d (i + 1) (if f = 1 ∨ (τ 20 i = c ∧ ¬ τ 1 (7 * w i + 2) = 3) then 1 else 0)
theorem rdF_01 {τ : IM} {c : Int} : ∀ d i f, (f = 0 ∨ f = 1) → (rdF τ c d i f = 0 ∨ rdF τ c d i f = 1)
  | 0, _, _, h => h
  | d + 1, i, f, h => by
    unfold rdF
    refine rdF_01 d (i + 1) _ ?_
    split
    · exact Or.inr rfl
    · exact Or.inl rfl
theorem alF_01 {τ : IM} {c : Int} : ∀ d i f, (f = 0 ∨ f = 1) → (alF τ c d i f = 0 ∨ alF τ c d i f = 1)
  | 0, _, _, h => h
  | d + 1, i, f, h => by
    unfold alF
    refine alF_01 d (i + 1) _ ?_
    split
    · exact Or.inr rfl
    · exact Or.inl rfl
theorem onF_01 {τ : IM} {w : Nat → Nat} {c : Int} : ∀ d i f, (f = 0 ∨ f = 1) → (onF τ w c d i f = 0 ∨ onF τ w c d i f = 1)
  | 0, _, _, h => h
  | d + 1, i, f, h => by
    unfold onF
    refine onF_01 d (i + 1) _ ?_
    split
    · exact Or.inr rfl
    · exact Or.inl rfl
theorem rdF_iff {τ : IM} {c : Int} : ∀ d i f, rdF τ c d i f = 1 ↔ (f = 1 ∨ ∃ k, (i ≤ k ∧ k < i + d) ∧ τ 20 k = c ∧ τ 22 k < 0)
  | 0, i, f => ⟨Or.inl, fun x => x.elim id (fun ⟨k, h, _⟩ => by omega)⟩
  | d + 1, i, f => by
    unfold rdF
    rw [rdF_iff d (i + 1)]
    by_cases a : f = 1 ∨ (τ 20 i = c ∧ τ 22 i < 0)
    · rw [if_pos a]
      refine ⟨fun _ => a.elim Or.inl (fun y => Or.inr ⟨i, ⟨by omega, by omega⟩, y⟩), fun _ => Or.inl rfl⟩
    · rw [if_neg a]
      constructor
      · rintro (x | ⟨k, x1, x2⟩)
        · omega
        · exact Or.inr ⟨k, ⟨by omega, by omega⟩, x2⟩
      · rintro (x | ⟨k, x1, x2⟩)
        · exact absurd (Or.inl x) a
        · by_cases e : k = i
          · subst e
            exact absurd (Or.inr x2) a
          · exact Or.inr ⟨k, ⟨by omega, by omega⟩, x2⟩
theorem onF_iff {τ : IM} {w : Nat → Nat} {c : Int} : ∀ d i f, onF τ w c d i f = 1 ↔ (f = 1 ∨ ∃ k, (i ≤ k ∧ k < i + d) ∧ τ 20 k = c ∧ ¬ τ 1 (7 * w k + 2) = 3)
  | 0, i, f => ⟨Or.inl, fun x => x.elim id (fun ⟨k, h, _⟩ => by omega)⟩
  | d + 1, i, f => by
    unfold onF
    rw [onF_iff d (i + 1)]
    by_cases a : f = 1 ∨ (τ 20 i = c ∧ ¬ τ 1 (7 * w i + 2) = 3)
    · rw [if_pos a]
      refine ⟨fun _ => a.elim Or.inl (fun y => Or.inr ⟨i, ⟨by omega, by omega⟩, y⟩), fun _ => Or.inl rfl⟩
    · rw [if_neg a]
      constructor
      · rintro (x | ⟨k, x1, x2⟩)
        · omega
        · exact Or.inr ⟨k, ⟨by omega, by omega⟩, x2⟩
      · rintro (x | ⟨k, x1, x2⟩)
        · exact absurd (Or.inl x) a
        · by_cases e : k = i
          · subst e
            exact absurd (Or.inr x2) a
          · exact Or.inr ⟨k, ⟨by omega, by omega⟩, x2⟩
theorem alF_iff {τ : IM} {c : Int} : ∀ d i f, alF τ c d i f = 1 ↔ (f = 1 ∧ ∀ k, i ≤ k → k < i + d → τ 20 k = c → τ 8 k = 1)
  | 0, i, f => ⟨fun x => ⟨x, fun k h1 h2 => by omega⟩, fun x => x.1⟩
  | d + 1, i, f => by
    unfold alF
    rw [alF_iff d (i + 1)]
    by_cases a : f = 1 ∧ (¬ τ 20 i = c ∨ τ 8 i = 1)
    · rw [if_pos a]
      constructor
      · rintro ⟨-, x⟩
        refine ⟨a.1, fun k h1 h2 h3 => ?_⟩
        by_cases e : k = i
        · subst e
          exact a.2.elim (fun y => absurd h3 y) id
        · exact x k (by omega) (by omega) h3
      · rintro ⟨-, x⟩
        exact ⟨rfl, fun k h1 h2 h3 => x k (by omega) (by omega) h3⟩
    · rw [if_neg a]
      constructor
      · rintro ⟨x, -⟩
        omega
      · rintro ⟨x, y⟩
        exfalso
        refine a ⟨x, ?_⟩
        by_cases e : τ 20 i = c
        · exact Or.inr (y i (by omega) (by omega) e)
        · exact Or.inl e
theorem flagC_L {K : Int32 → Int32 → Mm → Aa} {z : Int32 → Int32 → Int32 → Mm → Aa} {n : Nat} {c : Int} {τ : IM} (hn : n ≤ 6) (hc : 0 ≤ c ∧ c ≤ 10) (h29 : τ 0 29 = (n : Int)) (hB : ∀ k, k < n → (0 ≤ τ 20 k ∧ τ 20 k ≤ 10) ∧ (-1 ≤ τ 22 k ∧ τ 22 k ≤ 1000) ∧ (0 ≤ τ 8 k ∧ τ 8 k ≤ 1)) : ∀ (d i N : Nat) (f g : Int), i + d = n → d < N → (f = 0 ∨ f = 1) → (g = 0 ∨ g = 1) → mm_lk z (fX7_goCompanies_L62 (mI c) K) N (mI f) (mI g) (mI i) (enc τ) = K (mI (rdF τ c d i f)) (mI (alF τ c d i g)) (enc τ)
  | d, i, 0, f, g, _, h, _, _ => absurd h (Nat.not_lt_zero d)
  | 0, i, N + 1, f, g, h, _, _, _ => by
    rw [mm_lk_s, fX7_goCompanies_L62]
    simp (implicitDefEqProofs := false) (maxSteps := 1000000) (disch := omega) only [h29, ↓mm_lt_s, ↓cl_in, ↓cl_wi, ↓cl_has, ↓cl_isP, mL_le, lit_n, litL_n, mL_mI, mL_neg, mm_cl_s, mI_lt, mI_le, mI_eq, enc_at, enc_wr, enc_cp, mI_neg, mI_add, mI_sub, mI_mul, mI_ix, mm_ck_ok, mm_nz_ok, mm_bo_c, mm_bo_m0, mm_bo_m1, b01, Int.toNat_natCast, Int.reduceToNat, Int.reduceNeg, Int.reduceSub, Int.reduceAdd, Int.reduceMul, Int.reduceLT, Int.reduceLE, Int.reduceEq, ↓reduceIte, not_true, not_false_eq_true, not_true_eq_false, and_self, true_and, and_true, false_and, and_false, Decidable.not_not, stv1, stv2, stv3, stv4]
    repeat (first | rw [if_pos (by omega)] | rw [if_neg (by omega)])
    rfl
  | d + 1, i, N + 1, f, g, h, h2, hf, hg => by
    obtain ⟨b1, b2, b3⟩ := hB i (by omega)
    have c1 : ¬ (n : Int) ≤ (i : Int) := by omega
    have o : ¬ (1 : Int) = 0 := by omega
    have ih := fun f g h1 h2 => flagC_L (K := K) (z := z) hn hc h29 hB d (i + 1) N f g (by omega) (by omega) h1 h2
    have goal : ∀ f' g' : Int, (if f = 1 ∨ (τ 20 i = c ∧ τ 22 i < 0) then (1 : Int) else 0) = f' → (if g = 1 ∧ (¬ τ 20 i = c ∨ τ 8 i = 1) then (1 : Int) else 0) = g' → mm_lk z (fX7_goCompanies_L62 (mI c) K) (N + 1) (mI f) (mI g) (mI i) (enc τ) = mm_lk z (fX7_goCompanies_L62 (mI c) K) N (mI f') (mI g') (mI ((i + 1 : Nat) : Int)) (enc τ) → mm_lk z (fX7_goCompanies_L62 (mI c) K) (N + 1) (mI f) (mI g) (mI i) (enc τ) = K (mI (rdF τ c (d + 1) i f)) (mI (alF τ c (d + 1) i g)) (enc τ) := fun f' g' e1 e2 e3 => by
      rw [e3, ih f' g' (by rw [← e1]; split <;> omega) (by rw [← e2]; split <;> omega), ← e1, ← e2]
      rfl
    by_cases r : τ 20 i = c
    · by_cases e : τ 22 i < 0
      · have ne : ¬ 0 ≤ τ 22 i := by omega
        by_cases a : τ 8 i = 1
        · refine goal 1 g (if_pos (Or.inr ⟨r, e⟩)) ?_ ?_
          · rcases hg with rfl | rfl
            · exact if_neg (fun x => absurd x.1 (by decide))
            · exact if_pos ⟨rfl, Or.inr a⟩
          · rw [mm_lk_s, fX7_goCompanies_L62]
            rcases hf with rfl | rfl <;> rcases hg with rfl | rfl
            · simp (implicitDefEqProofs := false) (maxSteps := 1000000) (disch := omega) only [h29, c1, eq_true r, ne, eq_true a, o, cast_s, ↓mm_lt_s, ↓cl_in, ↓cl_wi, ↓cl_has, ↓cl_isP, mL_le, lit_n, litL_n, mL_mI, mL_neg, mm_cl_s, mI_lt, mI_le, mI_eq, enc_at, enc_wr, enc_cp, mI_neg, mI_add, mI_sub, mI_mul, mI_ix, mm_ck_ok, mm_nz_ok, mm_bo_c, mm_bo_m0, mm_bo_m1, b01, Int.toNat_natCast, Int.reduceToNat, Int.reduceNeg, Int.reduceSub, Int.reduceAdd, Int.reduceMul, Int.reduceLT, Int.reduceLE, Int.reduceEq, ↓reduceIte, not_true, not_false_eq_true, not_true_eq_false, and_self, true_and, and_true, false_and, and_false, Decidable.not_not, stv1, stv2, stv3, stv4]
            · simp (implicitDefEqProofs := false) (maxSteps := 1000000) (disch := omega) only [h29, c1, eq_true r, ne, eq_true a, o, cast_s, ↓mm_lt_s, ↓cl_in, ↓cl_wi, ↓cl_has, ↓cl_isP, mL_le, lit_n, litL_n, mL_mI, mL_neg, mm_cl_s, mI_lt, mI_le, mI_eq, enc_at, enc_wr, enc_cp, mI_neg, mI_add, mI_sub, mI_mul, mI_ix, mm_ck_ok, mm_nz_ok, mm_bo_c, mm_bo_m0, mm_bo_m1, b01, Int.toNat_natCast, Int.reduceToNat, Int.reduceNeg, Int.reduceSub, Int.reduceAdd, Int.reduceMul, Int.reduceLT, Int.reduceLE, Int.reduceEq, ↓reduceIte, not_true, not_false_eq_true, not_true_eq_false, and_self, true_and, and_true, false_and, and_false, Decidable.not_not, stv1, stv2, stv3, stv4]
            · simp (implicitDefEqProofs := false) (maxSteps := 1000000) (disch := omega) only [h29, c1, eq_true r, ne, eq_true a, o, cast_s, ↓mm_lt_s, ↓cl_in, ↓cl_wi, ↓cl_has, ↓cl_isP, mL_le, lit_n, litL_n, mL_mI, mL_neg, mm_cl_s, mI_lt, mI_le, mI_eq, enc_at, enc_wr, enc_cp, mI_neg, mI_add, mI_sub, mI_mul, mI_ix, mm_ck_ok, mm_nz_ok, mm_bo_c, mm_bo_m0, mm_bo_m1, b01, Int.toNat_natCast, Int.reduceToNat, Int.reduceNeg, Int.reduceSub, Int.reduceAdd, Int.reduceMul, Int.reduceLT, Int.reduceLE, Int.reduceEq, ↓reduceIte, not_true, not_false_eq_true, not_true_eq_false, and_self, true_and, and_true, false_and, and_false, Decidable.not_not, stv1, stv2, stv3, stv4]
            · simp (implicitDefEqProofs := false) (maxSteps := 1000000) (disch := omega) only [h29, c1, eq_true r, ne, eq_true a, o, cast_s, ↓mm_lt_s, ↓cl_in, ↓cl_wi, ↓cl_has, ↓cl_isP, mL_le, lit_n, litL_n, mL_mI, mL_neg, mm_cl_s, mI_lt, mI_le, mI_eq, enc_at, enc_wr, enc_cp, mI_neg, mI_add, mI_sub, mI_mul, mI_ix, mm_ck_ok, mm_nz_ok, mm_bo_c, mm_bo_m0, mm_bo_m1, b01, Int.toNat_natCast, Int.reduceToNat, Int.reduceNeg, Int.reduceSub, Int.reduceAdd, Int.reduceMul, Int.reduceLT, Int.reduceLE, Int.reduceEq, ↓reduceIte, not_true, not_false_eq_true, not_true_eq_false, and_self, true_and, and_true, false_and, and_false, Decidable.not_not, stv1, stv2, stv3, stv4]
        · refine goal 1 0 (if_pos (Or.inr ⟨r, e⟩)) (if_neg (fun x => x.2.elim (fun y => y r) a)) ?_
          rw [mm_lk_s, fX7_goCompanies_L62]
          rcases hf with rfl | rfl <;> rcases hg with rfl | rfl
          · simp (implicitDefEqProofs := false) (maxSteps := 1000000) (disch := omega) only [h29, c1, eq_true r, ne, a, o, cast_s, ↓mm_lt_s, ↓cl_in, ↓cl_wi, ↓cl_has, ↓cl_isP, mL_le, lit_n, litL_n, mL_mI, mL_neg, mm_cl_s, mI_lt, mI_le, mI_eq, enc_at, enc_wr, enc_cp, mI_neg, mI_add, mI_sub, mI_mul, mI_ix, mm_ck_ok, mm_nz_ok, mm_bo_c, mm_bo_m0, mm_bo_m1, b01, Int.toNat_natCast, Int.reduceToNat, Int.reduceNeg, Int.reduceSub, Int.reduceAdd, Int.reduceMul, Int.reduceLT, Int.reduceLE, Int.reduceEq, ↓reduceIte, not_true, not_false_eq_true, not_true_eq_false, and_self, true_and, and_true, false_and, and_false, Decidable.not_not, stv1, stv2, stv3, stv4]
          · simp (implicitDefEqProofs := false) (maxSteps := 1000000) (disch := omega) only [h29, c1, eq_true r, ne, a, o, cast_s, ↓mm_lt_s, ↓cl_in, ↓cl_wi, ↓cl_has, ↓cl_isP, mL_le, lit_n, litL_n, mL_mI, mL_neg, mm_cl_s, mI_lt, mI_le, mI_eq, enc_at, enc_wr, enc_cp, mI_neg, mI_add, mI_sub, mI_mul, mI_ix, mm_ck_ok, mm_nz_ok, mm_bo_c, mm_bo_m0, mm_bo_m1, b01, Int.toNat_natCast, Int.reduceToNat, Int.reduceNeg, Int.reduceSub, Int.reduceAdd, Int.reduceMul, Int.reduceLT, Int.reduceLE, Int.reduceEq, ↓reduceIte, not_true, not_false_eq_true, not_true_eq_false, and_self, true_and, and_true, false_and, and_false, Decidable.not_not, stv1, stv2, stv3, stv4]
          · simp (implicitDefEqProofs := false) (maxSteps := 1000000) (disch := omega) only [h29, c1, eq_true r, ne, a, o, cast_s, ↓mm_lt_s, ↓cl_in, ↓cl_wi, ↓cl_has, ↓cl_isP, mL_le, lit_n, litL_n, mL_mI, mL_neg, mm_cl_s, mI_lt, mI_le, mI_eq, enc_at, enc_wr, enc_cp, mI_neg, mI_add, mI_sub, mI_mul, mI_ix, mm_ck_ok, mm_nz_ok, mm_bo_c, mm_bo_m0, mm_bo_m1, b01, Int.toNat_natCast, Int.reduceToNat, Int.reduceNeg, Int.reduceSub, Int.reduceAdd, Int.reduceMul, Int.reduceLT, Int.reduceLE, Int.reduceEq, ↓reduceIte, not_true, not_false_eq_true, not_true_eq_false, and_self, true_and, and_true, false_and, and_false, Decidable.not_not, stv1, stv2, stv3, stv4]
          · simp (implicitDefEqProofs := false) (maxSteps := 1000000) (disch := omega) only [h29, c1, eq_true r, ne, a, o, cast_s, ↓mm_lt_s, ↓cl_in, ↓cl_wi, ↓cl_has, ↓cl_isP, mL_le, lit_n, litL_n, mL_mI, mL_neg, mm_cl_s, mI_lt, mI_le, mI_eq, enc_at, enc_wr, enc_cp, mI_neg, mI_add, mI_sub, mI_mul, mI_ix, mm_ck_ok, mm_nz_ok, mm_bo_c, mm_bo_m0, mm_bo_m1, b01, Int.toNat_natCast, Int.reduceToNat, Int.reduceNeg, Int.reduceSub, Int.reduceAdd, Int.reduceMul, Int.reduceLT, Int.reduceLE, Int.reduceEq, ↓reduceIte, not_true, not_false_eq_true, not_true_eq_false, and_self, true_and, and_true, false_and, and_false, Decidable.not_not, stv1, stv2, stv3, stv4]
      · have ne : 0 ≤ τ 22 i := by omega
        by_cases a : τ 8 i = 1
        · refine goal f g ?_ ?_ ?_
          · rcases hf with rfl | rfl
            · exact if_neg (fun x => x.elim (by decide) (fun y => e y.2))
            · exact if_pos (Or.inl rfl)
          · rcases hg with rfl | rfl
            · exact if_neg (fun x => absurd x.1 (by decide))
            · exact if_pos ⟨rfl, Or.inr a⟩
          · rw [mm_lk_s, fX7_goCompanies_L62]
            rcases hf with rfl | rfl <;> rcases hg with rfl | rfl
            · simp (implicitDefEqProofs := false) (maxSteps := 1000000) (disch := omega) only [h29, c1, eq_true r, ne, eq_true a, o, cast_s, ↓mm_lt_s, ↓cl_in, ↓cl_wi, ↓cl_has, ↓cl_isP, mL_le, lit_n, litL_n, mL_mI, mL_neg, mm_cl_s, mI_lt, mI_le, mI_eq, enc_at, enc_wr, enc_cp, mI_neg, mI_add, mI_sub, mI_mul, mI_ix, mm_ck_ok, mm_nz_ok, mm_bo_c, mm_bo_m0, mm_bo_m1, b01, Int.toNat_natCast, Int.reduceToNat, Int.reduceNeg, Int.reduceSub, Int.reduceAdd, Int.reduceMul, Int.reduceLT, Int.reduceLE, Int.reduceEq, ↓reduceIte, not_true, not_false_eq_true, not_true_eq_false, and_self, true_and, and_true, false_and, and_false, Decidable.not_not, stv1, stv2, stv3, stv4]
            · simp (implicitDefEqProofs := false) (maxSteps := 1000000) (disch := omega) only [h29, c1, eq_true r, ne, eq_true a, o, cast_s, ↓mm_lt_s, ↓cl_in, ↓cl_wi, ↓cl_has, ↓cl_isP, mL_le, lit_n, litL_n, mL_mI, mL_neg, mm_cl_s, mI_lt, mI_le, mI_eq, enc_at, enc_wr, enc_cp, mI_neg, mI_add, mI_sub, mI_mul, mI_ix, mm_ck_ok, mm_nz_ok, mm_bo_c, mm_bo_m0, mm_bo_m1, b01, Int.toNat_natCast, Int.reduceToNat, Int.reduceNeg, Int.reduceSub, Int.reduceAdd, Int.reduceMul, Int.reduceLT, Int.reduceLE, Int.reduceEq, ↓reduceIte, not_true, not_false_eq_true, not_true_eq_false, and_self, true_and, and_true, false_and, and_false, Decidable.not_not, stv1, stv2, stv3, stv4]
            · simp (implicitDefEqProofs := false) (maxSteps := 1000000) (disch := omega) only [h29, c1, eq_true r, ne, eq_true a, o, cast_s, ↓mm_lt_s, ↓cl_in, ↓cl_wi, ↓cl_has, ↓cl_isP, mL_le, lit_n, litL_n, mL_mI, mL_neg, mm_cl_s, mI_lt, mI_le, mI_eq, enc_at, enc_wr, enc_cp, mI_neg, mI_add, mI_sub, mI_mul, mI_ix, mm_ck_ok, mm_nz_ok, mm_bo_c, mm_bo_m0, mm_bo_m1, b01, Int.toNat_natCast, Int.reduceToNat, Int.reduceNeg, Int.reduceSub, Int.reduceAdd, Int.reduceMul, Int.reduceLT, Int.reduceLE, Int.reduceEq, ↓reduceIte, not_true, not_false_eq_true, not_true_eq_false, and_self, true_and, and_true, false_and, and_false, Decidable.not_not, stv1, stv2, stv3, stv4]
            · simp (implicitDefEqProofs := false) (maxSteps := 1000000) (disch := omega) only [h29, c1, eq_true r, ne, eq_true a, o, cast_s, ↓mm_lt_s, ↓cl_in, ↓cl_wi, ↓cl_has, ↓cl_isP, mL_le, lit_n, litL_n, mL_mI, mL_neg, mm_cl_s, mI_lt, mI_le, mI_eq, enc_at, enc_wr, enc_cp, mI_neg, mI_add, mI_sub, mI_mul, mI_ix, mm_ck_ok, mm_nz_ok, mm_bo_c, mm_bo_m0, mm_bo_m1, b01, Int.toNat_natCast, Int.reduceToNat, Int.reduceNeg, Int.reduceSub, Int.reduceAdd, Int.reduceMul, Int.reduceLT, Int.reduceLE, Int.reduceEq, ↓reduceIte, not_true, not_false_eq_true, not_true_eq_false, and_self, true_and, and_true, false_and, and_false, Decidable.not_not, stv1, stv2, stv3, stv4]
        · refine goal f 0 ?_ (if_neg (fun x => x.2.elim (fun y => y r) a)) ?_
          · rcases hf with rfl | rfl
            · exact if_neg (fun x => x.elim (by decide) (fun y => e y.2))
            · exact if_pos (Or.inl rfl)
          · rw [mm_lk_s, fX7_goCompanies_L62]
            rcases hf with rfl | rfl <;> rcases hg with rfl | rfl
            · simp (implicitDefEqProofs := false) (maxSteps := 1000000) (disch := omega) only [h29, c1, eq_true r, ne, a, o, cast_s, ↓mm_lt_s, ↓cl_in, ↓cl_wi, ↓cl_has, ↓cl_isP, mL_le, lit_n, litL_n, mL_mI, mL_neg, mm_cl_s, mI_lt, mI_le, mI_eq, enc_at, enc_wr, enc_cp, mI_neg, mI_add, mI_sub, mI_mul, mI_ix, mm_ck_ok, mm_nz_ok, mm_bo_c, mm_bo_m0, mm_bo_m1, b01, Int.toNat_natCast, Int.reduceToNat, Int.reduceNeg, Int.reduceSub, Int.reduceAdd, Int.reduceMul, Int.reduceLT, Int.reduceLE, Int.reduceEq, ↓reduceIte, not_true, not_false_eq_true, not_true_eq_false, and_self, true_and, and_true, false_and, and_false, Decidable.not_not, stv1, stv2, stv3, stv4]
            · simp (implicitDefEqProofs := false) (maxSteps := 1000000) (disch := omega) only [h29, c1, eq_true r, ne, a, o, cast_s, ↓mm_lt_s, ↓cl_in, ↓cl_wi, ↓cl_has, ↓cl_isP, mL_le, lit_n, litL_n, mL_mI, mL_neg, mm_cl_s, mI_lt, mI_le, mI_eq, enc_at, enc_wr, enc_cp, mI_neg, mI_add, mI_sub, mI_mul, mI_ix, mm_ck_ok, mm_nz_ok, mm_bo_c, mm_bo_m0, mm_bo_m1, b01, Int.toNat_natCast, Int.reduceToNat, Int.reduceNeg, Int.reduceSub, Int.reduceAdd, Int.reduceMul, Int.reduceLT, Int.reduceLE, Int.reduceEq, ↓reduceIte, not_true, not_false_eq_true, not_true_eq_false, and_self, true_and, and_true, false_and, and_false, Decidable.not_not, stv1, stv2, stv3, stv4]
            · simp (implicitDefEqProofs := false) (maxSteps := 1000000) (disch := omega) only [h29, c1, eq_true r, ne, a, o, cast_s, ↓mm_lt_s, ↓cl_in, ↓cl_wi, ↓cl_has, ↓cl_isP, mL_le, lit_n, litL_n, mL_mI, mL_neg, mm_cl_s, mI_lt, mI_le, mI_eq, enc_at, enc_wr, enc_cp, mI_neg, mI_add, mI_sub, mI_mul, mI_ix, mm_ck_ok, mm_nz_ok, mm_bo_c, mm_bo_m0, mm_bo_m1, b01, Int.toNat_natCast, Int.reduceToNat, Int.reduceNeg, Int.reduceSub, Int.reduceAdd, Int.reduceMul, Int.reduceLT, Int.reduceLE, Int.reduceEq, ↓reduceIte, not_true, not_false_eq_true, not_true_eq_false, and_self, true_and, and_true, false_and, and_false, Decidable.not_not, stv1, stv2, stv3, stv4]
            · simp (implicitDefEqProofs := false) (maxSteps := 1000000) (disch := omega) only [h29, c1, eq_true r, ne, a, o, cast_s, ↓mm_lt_s, ↓cl_in, ↓cl_wi, ↓cl_has, ↓cl_isP, mL_le, lit_n, litL_n, mL_mI, mL_neg, mm_cl_s, mI_lt, mI_le, mI_eq, enc_at, enc_wr, enc_cp, mI_neg, mI_add, mI_sub, mI_mul, mI_ix, mm_ck_ok, mm_nz_ok, mm_bo_c, mm_bo_m0, mm_bo_m1, b01, Int.toNat_natCast, Int.reduceToNat, Int.reduceNeg, Int.reduceSub, Int.reduceAdd, Int.reduceMul, Int.reduceLT, Int.reduceLE, Int.reduceEq, ↓reduceIte, not_true, not_false_eq_true, not_true_eq_false, and_self, true_and, and_true, false_and, and_false, Decidable.not_not, stv1, stv2, stv3, stv4]
    · refine goal f g ?_ ?_ ?_
      · rcases hf with rfl | rfl
        · exact if_neg (fun x => x.elim (by decide) (fun y => r y.1))
        · exact if_pos (Or.inl rfl)
      · rcases hg with rfl | rfl
        · exact if_neg (fun x => absurd x.1 (by decide))
        · exact if_pos ⟨rfl, Or.inl r⟩
      · rw [mm_lk_s, fX7_goCompanies_L62]
        rcases hf with rfl | rfl <;> rcases hg with rfl | rfl
        · simp (implicitDefEqProofs := false) (maxSteps := 1000000) (disch := omega) only [h29, c1, r, o, cast_s, ↓mm_lt_s, ↓cl_in, ↓cl_wi, ↓cl_has, ↓cl_isP, mL_le, lit_n, litL_n, mL_mI, mL_neg, mm_cl_s, mI_lt, mI_le, mI_eq, enc_at, enc_wr, enc_cp, mI_neg, mI_add, mI_sub, mI_mul, mI_ix, mm_ck_ok, mm_nz_ok, mm_bo_c, mm_bo_m0, mm_bo_m1, b01, Int.toNat_natCast, Int.reduceToNat, Int.reduceNeg, Int.reduceSub, Int.reduceAdd, Int.reduceMul, Int.reduceLT, Int.reduceLE, Int.reduceEq, ↓reduceIte, not_true, not_false_eq_true, not_true_eq_false, and_self, true_and, and_true, false_and, and_false, Decidable.not_not, stv1, stv2, stv3, stv4]
        · simp (implicitDefEqProofs := false) (maxSteps := 1000000) (disch := omega) only [h29, c1, r, o, cast_s, ↓mm_lt_s, ↓cl_in, ↓cl_wi, ↓cl_has, ↓cl_isP, mL_le, lit_n, litL_n, mL_mI, mL_neg, mm_cl_s, mI_lt, mI_le, mI_eq, enc_at, enc_wr, enc_cp, mI_neg, mI_add, mI_sub, mI_mul, mI_ix, mm_ck_ok, mm_nz_ok, mm_bo_c, mm_bo_m0, mm_bo_m1, b01, Int.toNat_natCast, Int.reduceToNat, Int.reduceNeg, Int.reduceSub, Int.reduceAdd, Int.reduceMul, Int.reduceLT, Int.reduceLE, Int.reduceEq, ↓reduceIte, not_true, not_false_eq_true, not_true_eq_false, and_self, true_and, and_true, false_and, and_false, Decidable.not_not, stv1, stv2, stv3, stv4]
        · simp (implicitDefEqProofs := false) (maxSteps := 1000000) (disch := omega) only [h29, c1, r, o, cast_s, ↓mm_lt_s, ↓cl_in, ↓cl_wi, ↓cl_has, ↓cl_isP, mL_le, lit_n, litL_n, mL_mI, mL_neg, mm_cl_s, mI_lt, mI_le, mI_eq, enc_at, enc_wr, enc_cp, mI_neg, mI_add, mI_sub, mI_mul, mI_ix, mm_ck_ok, mm_nz_ok, mm_bo_c, mm_bo_m0, mm_bo_m1, b01, Int.toNat_natCast, Int.reduceToNat, Int.reduceNeg, Int.reduceSub, Int.reduceAdd, Int.reduceMul, Int.reduceLT, Int.reduceLE, Int.reduceEq, ↓reduceIte, not_true, not_false_eq_true, not_true_eq_false, and_self, true_and, and_true, false_and, and_false, Decidable.not_not, stv1, stv2, stv3, stv4]
        · simp (implicitDefEqProofs := false) (maxSteps := 1000000) (disch := omega) only [h29, c1, r, o, cast_s, ↓mm_lt_s, ↓cl_in, ↓cl_wi, ↓cl_has, ↓cl_isP, mL_le, lit_n, litL_n, mL_mI, mL_neg, mm_cl_s, mI_lt, mI_le, mI_eq, enc_at, enc_wr, enc_cp, mI_neg, mI_add, mI_sub, mI_mul, mI_ix, mm_ck_ok, mm_nz_ok, mm_bo_c, mm_bo_m0, mm_bo_m1, b01, Int.toNat_natCast, Int.reduceToNat, Int.reduceNeg, Int.reduceSub, Int.reduceAdd, Int.reduceMul, Int.reduceLT, Int.reduceLE, Int.reduceEq, ↓reduceIte, not_true, not_false_eq_true, not_true_eq_false, and_self, true_and, and_true, false_and, and_false, Decidable.not_not, stv1, stv2, stv3, stv4]
theorem spitM {τ : IM} {n k : Nat} {w : Nat → Nat} (hW : WK τ n w) (hk : k < n) : fX7_isSpiting (mI k) (enc τ) = some (mI (if τ 1 (7 * w k + 2) = 3 then 1 else 0), enc τ) := by
  obtain ⟨⟨w0, hn⟩, w1⟩ := hW
  obtain ⟨a1, a2, a3, a4⟩ := w1 k hk
  have n2 : (7 * (w k : Int) + 2).toNat = 7 * w k + 2 := by omega
  unfold fX7_isSpiting
  by_cases c : τ 1 (7 * w k + 2) = 3
  · rw [if_pos c]
    simp (implicitDefEqProofs := false) (maxSteps := 1000000) (disch := omega) only [a2, n2, eq_true c, ↓mm_lt_s, ↓cl_in, ↓cl_wi, ↓cl_has, ↓cl_isP, mL_le, lit_n, litL_n, mL_mI, mL_neg, mm_cl_s, mI_lt, mI_le, mI_eq, enc_at, enc_wr, enc_cp, mI_neg, mI_add, mI_sub, mI_mul, mI_ix, mm_ck_ok, mm_nz_ok, mm_bo_c, mm_bo_m0, mm_bo_m1, b01, Int.toNat_natCast, Int.reduceToNat, Int.reduceNeg, Int.reduceSub, Int.reduceAdd, Int.reduceMul, Int.reduceLT, Int.reduceLE, Int.reduceEq, ↓reduceIte, not_true, not_false_eq_true, not_true_eq_false, and_self, true_and, and_true, false_and, and_false, Decidable.not_not, stv1, stv2, stv3, stv4]
  · rw [if_neg c]
    simp (implicitDefEqProofs := false) (maxSteps := 1000000) (disch := omega) only [a2, n2, c, ↓mm_lt_s, ↓cl_in, ↓cl_wi, ↓cl_has, ↓cl_isP, mL_le, lit_n, litL_n, mL_mI, mL_neg, mm_cl_s, mI_lt, mI_le, mI_eq, enc_at, enc_wr, enc_cp, mI_neg, mI_add, mI_sub, mI_mul, mI_ix, mm_ck_ok, mm_nz_ok, mm_bo_c, mm_bo_m0, mm_bo_m1, b01, Int.toNat_natCast, Int.reduceToNat, Int.reduceNeg, Int.reduceSub, Int.reduceAdd, Int.reduceMul, Int.reduceLT, Int.reduceLE, Int.reduceEq, ↓reduceIte, not_true, not_false_eq_true, not_true_eq_false, and_self, true_and, and_true, false_and, and_false, Decidable.not_not, stv1, stv2, stv3, stv4]
theorem onF_cong {τ τ1 : IM} {w : Nat → Nat} {c : Int} (h1 : ∀ k, τ1 20 k = τ 20 k) (h2 : ∀ k, τ1 1 k = τ 1 k) : ∀ d i f, onF τ1 w c d i f = onF τ w c d i f
  | 0, _, _ => rfl
  | d + 1, i, f => by
    unfold onF
    rw [h1, h2]
    exact onF_cong h1 h2 d (i + 1) _
/-- a company steps off -/
theorem compL {n : Nat} {w : Nat → Nat} {c t : Int} (hc : 0 ≤ c ∧ c ≤ 10) (ht : 0 ≤ t ∧ t ≤ 1000) : ∀ (d i : Nat) (τ : IM) (left sp on : Int), i + d = n → WK τ n w → (∀ k, k < n → (0 ≤ τ 20 k ∧ τ 20 k ≤ 10)) → (-100 - (i : Int) ≤ left ∧ left ≤ 100) → (0 ≤ sp ∧ sp ≤ 100 + (i : Int)) → (on = 0 ∨ on = 1) → ∃ τ' : IM, (∀ (N : Nat), d < N → ∀ (K : Int32 → Int32 → Int32 → Mm → Aa) (z : Int32 → Int32 → Int32 → Int32 → Mm → Aa), mm_lk z (fX7_goCompanies_L152 (mI c) (mI 1) (mI 1) (mI t) K) N (mI left) (mI sp) (mI on) (mI i) (enc τ) = K (mI (left - (cN (fun k => τ 20 k = c) n : Int) + (cN (fun k => τ 20 k = c) i : Int))) (mI (sp + (cN (fun k => τ 20 k = c ∧ τ 1 (7 * w k + 2) = 3) n : Int) - (cN (fun k => τ 20 k = c ∧ τ 1 (7 * w k + 2) = 3) i : Int))) (mI (onF τ w c d i on)) (enc τ')) ∧ (∀ k, i ≤ k → k < n → τ' 22 k = (if τ 20 k = c then t else τ 22 k)) ∧ ∀ a b, ¬ (a = 22 ∧ i ≤ b ∧ b < n) → τ' a b = τ a b := by
  intro d
  induction d with
  | zero =>
    intro i τ left sp on h hW hB hl hsp hon
    have e : i = n := by omega
    subst e
    have h29 := hW.1.1
    have h6 := hW.1.2
    refine ⟨τ, fun N hN K z => ?_, fun k h1 h2 => by omega, fun _ _ _ => rfl⟩
    obtain ⟨N, rfl⟩ : ∃ M, N = M + 1 := ⟨N - 1, by omega⟩
    rw [mm_lk_s, fX7_goCompanies_L152]
    simp (implicitDefEqProofs := false) (maxSteps := 1000000) (disch := omega) only [h29, ↓mm_lt_s, ↓cl_in, ↓cl_wi, ↓cl_has, ↓cl_isP, mL_le, lit_n, litL_n, mL_mI, mL_neg, mm_cl_s, mI_lt, mI_le, mI_eq, enc_at, enc_wr, enc_cp, mI_neg, mI_add, mI_sub, mI_mul, mI_ix, mm_ck_ok, mm_nz_ok, mm_bo_c, mm_bo_m0, mm_bo_m1, b01, Int.toNat_natCast, Int.reduceToNat, Int.reduceNeg, Int.reduceSub, Int.reduceAdd, Int.reduceMul, Int.reduceLT, Int.reduceLE, Int.reduceEq, ↓reduceIte, not_true, not_false_eq_true, not_true_eq_false, and_self, true_and, and_true, false_and, and_false, Decidable.not_not, stv1, stv2, stv3, stv4]
    repeat (first | rw [if_pos (by omega)] | rw [if_neg (by omega)])
    rw [show left - (cN (fun k => τ 20 k = c) i : Int) + (cN (fun k => τ 20 k = c) i : Int) = left by omega, show sp + (cN (fun k => τ 20 k = c ∧ τ 1 (7 * w k + 2) = 3) i : Int) - (cN (fun k => τ 20 k = c ∧ τ 1 (7 * w k + 2) = 3) i : Int) = sp by omega]
    rfl
  | succ d ih =>
    intro i τ left sp on h hW hB hl hsp hon
    have h29 := hW.1.1
    have h6 := hW.1.2
    have hi : i < n := by omega
    have c1 : ¬ (n : Int) ≤ (i : Int) := by omega
    have o : ¬ (1 : Int) = 0 := by omega
    have b1 := hB i hi
    by_cases r : τ 20 i = c
    · generalize hτ1 : iw τ 22 i t = τ1
      have f1 : ∀ a b, ¬ (a = 22 ∧ b = i) → τ1 a b = τ a b := fun a b hab => by rw [← hτ1, iw_ne hab]
      have hW1 : WK τ1 n w := hW.cong (f1 _ _ (by omega)) (fun b => f1 _ _ (by omega)) (fun b => f1 _ _ (by omega))
      have S := spitM (k := i) hW1 hi
      have g20 : ∀ k, τ1 20 k = τ 20 k := fun k => f1 _ _ (by omega)
      have g1 : ∀ k, τ1 1 k = τ 1 k := fun k => f1 _ _ (by omega)
      have eA : ∀ m, cN (fun k => τ1 20 k = c) m = cN (fun k => τ 20 k = c) m := fun m => cN_cong m (fun k _ => by rw [g20])
      have eB : ∀ m, cN (fun k => τ1 20 k = c ∧ τ1 1 (7 * w k + 2) = 3) m = cN (fun k => τ 20 k = c ∧ τ 1 (7 * w k + 2) = 3) m := fun m => cN_cong m (fun k _ => by rw [g20, g1])
      have eO : ∀ f, onF τ1 w c d (i + 1) f = onF τ w c d (i + 1) f := fun f => onF_cong g20 g1 d (i + 1) f
      have nA := cN_s (p := fun k => τ 20 k = c) i
      rw [if_pos r] at nA
      have nB := cN_s (p := fun k => τ 20 k = c ∧ τ 1 (7 * w k + 2) = 3) i
      have step : ∀ v u : Int, (if τ 1 (7 * w i + 2) = 3 then (1 : Int) else 0) = v → (if on = 1 ∨ (τ 20 i = c ∧ ¬ τ 1 (7 * w i + 2) = 3) then (1 : Int) else 0) = u → (∀ (N : Nat) (K : Int32 → Int32 → Int32 → Mm → Aa) (z : Int32 → Int32 → Int32 → Int32 → Mm → Aa), mm_lk z (fX7_goCompanies_L152 (mI c) (mI 1) (mI 1) (mI t) K) (N + 1) (mI left) (mI sp) (mI on) (mI i) (enc τ) = mm_lk z (fX7_goCompanies_L152 (mI c) (mI 1) (mI 1) (mI t) K) N (mI (left - 1)) (mI (sp + v)) (mI u) (mI ((i + 1 : Nat) : Int)) (enc τ1)) → ∃ τ' : IM, (∀ (N : Nat), d + 1 < N → ∀ (K : Int32 → Int32 → Int32 → Mm → Aa) (z : Int32 → Int32 → Int32 → Int32 → Mm → Aa), mm_lk z (fX7_goCompanies_L152 (mI c) (mI 1) (mI 1) (mI t) K) N (mI left) (mI sp) (mI on) (mI i) (enc τ) = K (mI (left - (cN (fun k => τ 20 k = c) n : Int) + (cN (fun k => τ 20 k = c) i : Int))) (mI (sp + (cN (fun k => τ 20 k = c ∧ τ 1 (7 * w k + 2) = 3) n : Int) - (cN (fun k => τ 20 k = c ∧ τ 1 (7 * w k + 2) = 3) i : Int))) (mI (onF τ w c (d + 1) i on)) (enc τ')) ∧ (∀ k, i ≤ k → k < n → τ' 22 k = (if τ 20 k = c then t else τ 22 k)) ∧ ∀ a b, ¬ (a = 22 ∧ i ≤ b ∧ b < n) → τ' a b = τ a b := fun v u hv hu E => by
        have v01 : 0 ≤ v ∧ v ≤ 1 := by rw [← hv]; split <;> omega
        have nB' : (cN (fun k => τ 20 k = c ∧ τ 1 (7 * w k + 2) = 3) (i + 1) : Int) = (cN (fun k => τ 20 k = c ∧ τ 1 (7 * w k + 2) = 3) i : Int) + v := by
          rw [nB, ← hv]
          by_cases s3 : τ 1 (7 * w i + 2) = 3
          · rw [if_pos s3, if_pos ⟨r, s3⟩]; omega
          · rw [if_neg s3, if_neg (fun x => s3 x.2)]; omega
        obtain ⟨τ', q1, q2, q3⟩ := ih (i + 1) τ1 (left - 1) (sp + v) u (by omega) hW1 (fun k hk => by rw [g20]; exact hB k hk) (by omega) (by omega) (by rw [← hu]; split <;> omega)
        refine ⟨τ', fun N hN K z => ?_, fun k h1 h2 => ?_, fun a b hab => ?_⟩
        · obtain ⟨N, rfl⟩ : ∃ M, N = M + 1 := ⟨N - 1, by omega⟩
          rw [E, q1 N (by omega) K z, eA, eA, eB, eB, eO, nB', nA]
          have o1 : onF τ w c (d + 1) i on = onF τ w c d (i + 1) u := by rw [← hu]; rfl
          rw [o1]
          congr 2
          · omega
          · omega
        · by_cases e : k = i
          · subst e
            rw [q3 _ _ (by omega), ← hτ1, iw_eq rfl rfl, if_pos r]
          · rw [q2 k (by omega) h2, g20, f1 _ _ (by omega)]
        · rw [q3 a b (by omega), f1 a b (by omega)]
      by_cases s3 : τ 1 (7 * w i + 2) = 3
      · rw [g1, if_pos s3] at S
        refine step 1 on (if_pos s3) ?_ (fun N K z => ?_)
        · rcases hon with rfl | rfl
          · exact if_neg (fun x => x.elim (by decide) (fun y => y.2 s3))
          · exact if_pos (Or.inl rfl)
        · have em : left + -1 = left - 1 := by omega
          rw [mm_lk_s, fX7_goCompanies_L152]
          rcases hon with rfl | rfl
          · simp (implicitDefEqProofs := false) (maxSteps := 1000000) (disch := omega) only [h29, c1, o, eq_true r, hτ1, ↓mm_lt_s, ↓cl_in, ↓cl_wi, ↓cl_has, ↓cl_isP, mL_le, lit_n, litL_n, mL_mI, mL_neg, mm_cl_s, mI_lt, mI_le, mI_eq, enc_at, enc_wr, enc_cp, mI_neg, mI_add, mI_sub, mI_mul, mI_ix, mm_ck_ok, mm_nz_ok, mm_bo_c, mm_bo_m0, mm_bo_m1, b01, Int.toNat_natCast, Int.reduceToNat, Int.reduceNeg, Int.reduceSub, Int.reduceAdd, Int.reduceMul, Int.reduceLT, Int.reduceLE, Int.reduceEq, ↓reduceIte, not_true, not_false_eq_true, not_true_eq_false, and_self, true_and, and_true, false_and, and_false, Decidable.not_not, stv1, stv2, stv3, stv4]
            rw [S]
            simp (implicitDefEqProofs := false) (maxSteps := 1000000) (disch := omega) only [o, ↓mm_lt_s, ↓cl_in, ↓cl_wi, ↓cl_has, ↓cl_isP, mL_le, lit_n, litL_n, mL_mI, mL_neg, mm_cl_s, mI_lt, mI_le, mI_eq, enc_at, enc_wr, enc_cp, mI_neg, mI_add, mI_sub, mI_mul, mI_ix, mm_ck_ok, mm_nz_ok, mm_bo_c, mm_bo_m0, mm_bo_m1, b01, Int.toNat_natCast, Int.reduceToNat, Int.reduceNeg, Int.reduceSub, Int.reduceAdd, Int.reduceMul, Int.reduceLT, Int.reduceLE, Int.reduceEq, ↓reduceIte, not_true, not_false_eq_true, not_true_eq_false, and_self, true_and, and_true, false_and, and_false, Decidable.not_not, stv1, stv2, stv3, stv4]
            rw [S]
            simp (implicitDefEqProofs := false) (maxSteps := 1000000) (disch := omega) only [o, em, cast_s, ↓mm_lt_s, ↓cl_in, ↓cl_wi, ↓cl_has, ↓cl_isP, mL_le, lit_n, litL_n, mL_mI, mL_neg, mm_cl_s, mI_lt, mI_le, mI_eq, enc_at, enc_wr, enc_cp, mI_neg, mI_add, mI_sub, mI_mul, mI_ix, mm_ck_ok, mm_nz_ok, mm_bo_c, mm_bo_m0, mm_bo_m1, b01, Int.toNat_natCast, Int.reduceToNat, Int.reduceNeg, Int.reduceSub, Int.reduceAdd, Int.reduceMul, Int.reduceLT, Int.reduceLE, Int.reduceEq, ↓reduceIte, not_true, not_false_eq_true, not_true_eq_false, and_self, true_and, and_true, false_and, and_false, Decidable.not_not, stv1, stv2, stv3, stv4]
          · simp (implicitDefEqProofs := false) (maxSteps := 1000000) (disch := omega) only [h29, c1, o, eq_true r, hτ1, ↓mm_lt_s, ↓cl_in, ↓cl_wi, ↓cl_has, ↓cl_isP, mL_le, lit_n, litL_n, mL_mI, mL_neg, mm_cl_s, mI_lt, mI_le, mI_eq, enc_at, enc_wr, enc_cp, mI_neg, mI_add, mI_sub, mI_mul, mI_ix, mm_ck_ok, mm_nz_ok, mm_bo_c, mm_bo_m0, mm_bo_m1, b01, Int.toNat_natCast, Int.reduceToNat, Int.reduceNeg, Int.reduceSub, Int.reduceAdd, Int.reduceMul, Int.reduceLT, Int.reduceLE, Int.reduceEq, ↓reduceIte, not_true, not_false_eq_true, not_true_eq_false, and_self, true_and, and_true, false_and, and_false, Decidable.not_not, stv1, stv2, stv3, stv4]
            rw [S]
            simp (implicitDefEqProofs := false) (maxSteps := 1000000) (disch := omega) only [o, em, cast_s, ↓mm_lt_s, ↓cl_in, ↓cl_wi, ↓cl_has, ↓cl_isP, mL_le, lit_n, litL_n, mL_mI, mL_neg, mm_cl_s, mI_lt, mI_le, mI_eq, enc_at, enc_wr, enc_cp, mI_neg, mI_add, mI_sub, mI_mul, mI_ix, mm_ck_ok, mm_nz_ok, mm_bo_c, mm_bo_m0, mm_bo_m1, b01, Int.toNat_natCast, Int.reduceToNat, Int.reduceNeg, Int.reduceSub, Int.reduceAdd, Int.reduceMul, Int.reduceLT, Int.reduceLE, Int.reduceEq, ↓reduceIte, not_true, not_false_eq_true, not_true_eq_false, and_self, true_and, and_true, false_and, and_false, Decidable.not_not, stv1, stv2, stv3, stv4]
      · rw [g1, if_neg s3] at S
        refine step 0 1 (if_neg s3) (if_pos (Or.inr ⟨r, s3⟩)) (fun N K z => ?_)
        have em : left + -1 = left - 1 := by omega
        rw [mm_lk_s, fX7_goCompanies_L152]
        rcases hon with rfl | rfl
        · simp (implicitDefEqProofs := false) (maxSteps := 1000000) (disch := omega) only [h29, c1, o, eq_true r, hτ1, ↓mm_lt_s, ↓cl_in, ↓cl_wi, ↓cl_has, ↓cl_isP, mL_le, lit_n, litL_n, mL_mI, mL_neg, mm_cl_s, mI_lt, mI_le, mI_eq, enc_at, enc_wr, enc_cp, mI_neg, mI_add, mI_sub, mI_mul, mI_ix, mm_ck_ok, mm_nz_ok, mm_bo_c, mm_bo_m0, mm_bo_m1, b01, Int.toNat_natCast, Int.reduceToNat, Int.reduceNeg, Int.reduceSub, Int.reduceAdd, Int.reduceMul, Int.reduceLT, Int.reduceLE, Int.reduceEq, ↓reduceIte, not_true, not_false_eq_true, not_true_eq_false, and_self, true_and, and_true, false_and, and_false, Decidable.not_not, stv1, stv2, stv3, stv4]
          rw [S]
          simp (implicitDefEqProofs := false) (maxSteps := 1000000) (disch := omega) only [o, ↓mm_lt_s, ↓cl_in, ↓cl_wi, ↓cl_has, ↓cl_isP, mL_le, lit_n, litL_n, mL_mI, mL_neg, mm_cl_s, mI_lt, mI_le, mI_eq, enc_at, enc_wr, enc_cp, mI_neg, mI_add, mI_sub, mI_mul, mI_ix, mm_ck_ok, mm_nz_ok, mm_bo_c, mm_bo_m0, mm_bo_m1, b01, Int.toNat_natCast, Int.reduceToNat, Int.reduceNeg, Int.reduceSub, Int.reduceAdd, Int.reduceMul, Int.reduceLT, Int.reduceLE, Int.reduceEq, ↓reduceIte, not_true, not_false_eq_true, not_true_eq_false, and_self, true_and, and_true, false_and, and_false, Decidable.not_not, stv1, stv2, stv3, stv4]
          rw [S]
          simp (implicitDefEqProofs := false) (maxSteps := 1000000) (disch := omega) only [o, em, cast_s, ↓mm_lt_s, ↓cl_in, ↓cl_wi, ↓cl_has, ↓cl_isP, mL_le, lit_n, litL_n, mL_mI, mL_neg, mm_cl_s, mI_lt, mI_le, mI_eq, enc_at, enc_wr, enc_cp, mI_neg, mI_add, mI_sub, mI_mul, mI_ix, mm_ck_ok, mm_nz_ok, mm_bo_c, mm_bo_m0, mm_bo_m1, b01, Int.toNat_natCast, Int.reduceToNat, Int.reduceNeg, Int.reduceSub, Int.reduceAdd, Int.reduceMul, Int.reduceLT, Int.reduceLE, Int.reduceEq, ↓reduceIte, not_true, not_false_eq_true, not_true_eq_false, and_self, true_and, and_true, false_and, and_false, Decidable.not_not, stv1, stv2, stv3, stv4]
        · simp (implicitDefEqProofs := false) (maxSteps := 1000000) (disch := omega) only [h29, c1, o, eq_true r, hτ1, ↓mm_lt_s, ↓cl_in, ↓cl_wi, ↓cl_has, ↓cl_isP, mL_le, lit_n, litL_n, mL_mI, mL_neg, mm_cl_s, mI_lt, mI_le, mI_eq, enc_at, enc_wr, enc_cp, mI_neg, mI_add, mI_sub, mI_mul, mI_ix, mm_ck_ok, mm_nz_ok, mm_bo_c, mm_bo_m0, mm_bo_m1, b01, Int.toNat_natCast, Int.reduceToNat, Int.reduceNeg, Int.reduceSub, Int.reduceAdd, Int.reduceMul, Int.reduceLT, Int.reduceLE, Int.reduceEq, ↓reduceIte, not_true, not_false_eq_true, not_true_eq_false, and_self, true_and, and_true, false_and, and_false, Decidable.not_not, stv1, stv2, stv3, stv4]
          rw [S]
          simp (implicitDefEqProofs := false) (maxSteps := 1000000) (disch := omega) only [o, em, cast_s, ↓mm_lt_s, ↓cl_in, ↓cl_wi, ↓cl_has, ↓cl_isP, mL_le, lit_n, litL_n, mL_mI, mL_neg, mm_cl_s, mI_lt, mI_le, mI_eq, enc_at, enc_wr, enc_cp, mI_neg, mI_add, mI_sub, mI_mul, mI_ix, mm_ck_ok, mm_nz_ok, mm_bo_c, mm_bo_m0, mm_bo_m1, b01, Int.toNat_natCast, Int.reduceToNat, Int.reduceNeg, Int.reduceSub, Int.reduceAdd, Int.reduceMul, Int.reduceLT, Int.reduceLE, Int.reduceEq, ↓reduceIte, not_true, not_false_eq_true, not_true_eq_false, and_self, true_and, and_true, false_and, and_false, Decidable.not_not, stv1, stv2, stv3, stv4]
    · obtain ⟨τ', q1, q2, q3⟩ := ih (i + 1) τ left sp on (by omega) hW hB (by omega) (by omega) hon
      have nA : cN (fun k => τ 20 k = c) (i + 1) = cN (fun k => τ 20 k = c) i := by
        rw [cN_s, if_neg r]
        omega
      have nB : cN (fun k => τ 20 k = c ∧ τ 1 (7 * w k + 2) = 3) (i + 1) = cN (fun k => τ 20 k = c ∧ τ 1 (7 * w k + 2) = 3) i := by
        rw [cN_s, if_neg (fun x => r x.1)]
        omega
      refine ⟨τ', fun N hN K z => ?_, fun k h1 h2 => ?_, fun a b hab => q3 a b (by omega)⟩
      · obtain ⟨N, rfl⟩ : ∃ M, N = M + 1 := ⟨N - 1, by omega⟩
        have o1 : onF τ w c (d + 1) i on = onF τ w c d (i + 1) on := by
          show onF τ w c d (i + 1) (if on = 1 ∨ (τ 20 i = c ∧ ¬ τ 1 (7 * w i + 2) = 3) then (1 : Int) else 0) = _
          congr 1
          rcases hon with rfl | rfl
          · exact if_neg (fun x => x.elim (by decide) (fun y => r y.1))
          · exact if_pos (Or.inl rfl)
        have Q := q1 N (by omega) K z
        rw [nA, nB] at Q
        rw [o1, ← Q, mm_lk_s, fX7_goCompanies_L152]
        simp (implicitDefEqProofs := false) (maxSteps := 1000000) (disch := omega) only [h29, c1, o, r, cast_s, ↓mm_lt_s, ↓cl_in, ↓cl_wi, ↓cl_has, ↓cl_isP, mL_le, lit_n, litL_n, mL_mI, mL_neg, mm_cl_s, mI_lt, mI_le, mI_eq, enc_at, enc_wr, enc_cp, mI_neg, mI_add, mI_sub, mI_mul, mI_ix, mm_ck_ok, mm_nz_ok, mm_bo_c, mm_bo_m0, mm_bo_m1, b01, Int.toNat_natCast, Int.reduceToNat, Int.reduceNeg, Int.reduceSub, Int.reduceAdd, Int.reduceMul, Int.reduceLT, Int.reduceLE, Int.reduceEq, ↓reduceIte, not_true, not_false_eq_true, not_true_eq_false, and_self, true_and, and_true, false_and, and_false, Decidable.not_not, stv1, stv2, stv3, stv4]
      · by_cases e : k = i
        · subst e
          rw [q3 _ _ (by omega), if_neg r]
        · exact q2 k (by omega) h2
