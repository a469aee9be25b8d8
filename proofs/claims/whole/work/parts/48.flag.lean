/-! days: the reference's step off -/
def mwF (τ : IM) (p : Nat) : Int := if 0 ≤ τ 16 p then (if (τ 5 (τ 16 p).toNat = 2 ∧ τ 8 (τ 16 p).toNat = 0) ∧ τ 6 (τ 16 p).toNat = τ 6 p then 1 else 0) else 0
theorem mwF_01 (τ : IM) (p : Nat) : mwF τ p = 0 ∨ mwF τ p = 1 := by
  unfold mwF
  split
  · split
    · exact Or.inr rfl
    · exact Or.inl rfl
  · exact Or.inl rfl
theorem waitM {τ : IM} {m p : Nat} (hp : p < m) (hm : m ≤ 10) (h16 : -10 ≤ τ 16 p ∧ τ 16 p < m) (hb : ∀ q, q < m → (0 ≤ τ 5 q ∧ τ 5 q ≤ 4) ∧ (0 ≤ τ 6 q ∧ τ 6 q ≤ 1) ∧ (0 ≤ τ 8 q ∧ τ 8 q ≤ 1)) : fX7_mustWait (mI p) (enc τ) = some (mI (mwF τ p), enc τ) := by
  unfold mwF
  by_cases c : 0 ≤ τ 16 p
  · rw [if_pos c]
    obtain ⟨q, hq⟩ : ∃ q : Nat, τ 16 p = (q : Int) := ⟨(τ 16 p).toNat, by omega⟩
    have qe : (τ 16 p).toNat = q := by omega
    rw [qe]
    obtain ⟨b5, b6, b8⟩ := hb q (by omega)
    obtain ⟨-, d6, -⟩ := hb p hp
    have n0 : ¬ (q : Int) < 0 := by omega
    by_cases c5 : τ 5 q = 2
    · by_cases c6 : τ 6 q = τ 6 p
      · by_cases c8 : τ 8 q = 0
        · rw [if_pos ⟨⟨c5, c8⟩, c6⟩]
          unfold fX7_mustWait
          simp (implicitDefEqProofs := false) (maxSteps := 1000000) (disch := omega) only [hq, n0, eq_true c5, eq_true c6, eq_true c8, ↓mm_lt_s, ↓cl_in, ↓cl_wi, ↓cl_has, ↓cl_isP, mL_le, lit_n, litL_n, mL_mI, mL_neg, mm_cl_s, mI_lt, mI_le, mI_eq, enc_at, enc_wr, enc_cp, mI_neg, mI_add, mI_sub, mI_mul, mI_ix, mm_ck_ok, mm_nz_ok, mm_bo_c, mm_bo_m0, mm_bo_m1, b01, Int.toNat_natCast, Int.reduceToNat, Int.reduceNeg, Int.reduceSub, Int.reduceAdd, Int.reduceMul, Int.reduceLT, Int.reduceLE, Int.reduceEq, ↓reduceIte, not_true, not_false_eq_true, not_true_eq_false, and_self, true_and, and_true, false_and, and_false, Decidable.not_not, stv1, stv2, stv3, stv4]
        · rw [if_neg (fun x => c8 x.1.2)]
          unfold fX7_mustWait
          simp (implicitDefEqProofs := false) (maxSteps := 1000000) (disch := omega) only [hq, n0, eq_true c5, eq_true c6, c8, ↓mm_lt_s, ↓cl_in, ↓cl_wi, ↓cl_has, ↓cl_isP, mL_le, lit_n, litL_n, mL_mI, mL_neg, mm_cl_s, mI_lt, mI_le, mI_eq, enc_at, enc_wr, enc_cp, mI_neg, mI_add, mI_sub, mI_mul, mI_ix, mm_ck_ok, mm_nz_ok, mm_bo_c, mm_bo_m0, mm_bo_m1, b01, Int.toNat_natCast, Int.reduceToNat, Int.reduceNeg, Int.reduceSub, Int.reduceAdd, Int.reduceMul, Int.reduceLT, Int.reduceLE, Int.reduceEq, ↓reduceIte, not_true, not_false_eq_true, not_true_eq_false, and_self, true_and, and_true, false_and, and_false, Decidable.not_not, stv1, stv2, stv3, stv4]
      · rw [if_neg (fun x => c6 x.2)]
        unfold fX7_mustWait
        simp (implicitDefEqProofs := false) (maxSteps := 1000000) (disch := omega) only [hq, n0, eq_true c5, c6, ↓mm_lt_s, ↓cl_in, ↓cl_wi, ↓cl_has, ↓cl_isP, mL_le, lit_n, litL_n, mL_mI, mL_neg, mm_cl_s, mI_lt, mI_le, mI_eq, enc_at, enc_wr, enc_cp, mI_neg, mI_add, mI_sub, mI_mul, mI_ix, mm_ck_ok, mm_nz_ok, mm_bo_c, mm_bo_m0, mm_bo_m1, b01, Int.toNat_natCast, Int.reduceToNat, Int.reduceNeg, Int.reduceSub, Int.reduceAdd, Int.reduceMul, Int.reduceLT, Int.reduceLE, Int.reduceEq, ↓reduceIte, not_true, not_false_eq_true, not_true_eq_false, and_self, true_and, and_true, false_and, and_false, Decidable.not_not, stv1, stv2, stv3, stv4]
    · rw [if_neg (fun x => c5 x.1.1)]
      unfold fX7_mustWait
      simp (implicitDefEqProofs := false) (maxSteps := 1000000) (disch := omega) only [hq, n0, c5, ↓mm_lt_s, ↓cl_in, ↓cl_wi, ↓cl_has, ↓cl_isP, mL_le, lit_n, litL_n, mL_mI, mL_neg, mm_cl_s, mI_lt, mI_le, mI_eq, enc_at, enc_wr, enc_cp, mI_neg, mI_add, mI_sub, mI_mul, mI_ix, mm_ck_ok, mm_nz_ok, mm_bo_c, mm_bo_m0, mm_bo_m1, b01, Int.toNat_natCast, Int.reduceToNat, Int.reduceNeg, Int.reduceSub, Int.reduceAdd, Int.reduceMul, Int.reduceLT, Int.reduceLE, Int.reduceEq, ↓reduceIte, not_true, not_false_eq_true, not_true_eq_false, and_self, true_and, and_true, false_and, and_false, Decidable.not_not, stv1, stv2, stv3, stv4]
  · rw [if_neg c]
    have c' : τ 16 p < 0 := by omega
    unfold fX7_mustWait
    simp (implicitDefEqProofs := false) (maxSteps := 1000000) (disch := omega) only [c', ↓mm_lt_s, ↓cl_in, ↓cl_wi, ↓cl_has, ↓cl_isP, mL_le, lit_n, litL_n, mL_mI, mL_neg, mm_cl_s, mI_lt, mI_le, mI_eq, enc_at, enc_wr, enc_cp, mI_neg, mI_add, mI_sub, mI_mul, mI_ix, mm_ck_ok, mm_nz_ok, mm_bo_c, mm_bo_m0, mm_bo_m1, b01, Int.toNat_natCast, Int.reduceToNat, Int.reduceNeg, Int.reduceSub, Int.reduceAdd, Int.reduceMul, Int.reduceLT, Int.reduceLE, Int.reduceEq, ↓reduceIte, not_true, not_false_eq_true, not_true_eq_false, and_self, true_and, and_true, false_and, and_false, Decidable.not_not, stv1, stv2, stv3, stv4]
/-- the flags -/
def flC (w : Int) (y : Nat → Int) (a : Nat) : Int := if a = 17 then (if (y 5 = 2 ∧ y 8 = 1) ∧ w = 0 then 1 else 0) else if a = 13 then y 13 + (if (y 5 = 2 ∧ y 8 = 1) ∧ ¬ w = 0 then 1 else 0) else y a
theorem flagM_L {K : Mm → Aa} {z : Int32 → Mm → Aa} {m : Nat} (hm : m ≤ 10) : ∀ (d i N : Nat) (τ : IM), i + d = m → d < N → τ 0 1 = (m : Int) → (∀ p, p < m → (-10 ≤ τ 16 p ∧ τ 16 p < m) ∧ (0 ≤ τ 5 p ∧ τ 5 p ≤ 4) ∧ (0 ≤ τ 6 p ∧ τ 6 p ≤ 1) ∧ (0 ≤ τ 8 p ∧ τ 8 p ≤ 1)) → mm_lk z (fX7_stepOff_L2 K) N (mI i) (enc τ) = K (enc (eachM τ i m (fun p => flC (mwF τ p) (fun a => τ a p))))
  | d, i, 0, τ, _, h, _, _ => absurd h (Nat.not_lt_zero d)
  | 0, i, N + 1, τ, h, _, hs, _ => by
    have e : i = m := by omega
    subst e
    rw [mm_lk_s, fX7_stepOff_L2, eachM_nil]
    simp (implicitDefEqProofs := false) (maxSteps := 1000000) (disch := omega) only [hs, ↓mm_lt_s, ↓cl_in, ↓cl_wi, ↓cl_has, ↓cl_isP, mL_le, lit_n, litL_n, mL_mI, mL_neg, mm_cl_s, mI_lt, mI_le, mI_eq, enc_at, enc_wr, enc_cp, mI_neg, mI_add, mI_sub, mI_mul, mI_ix, mm_ck_ok, mm_nz_ok, mm_bo_c, mm_bo_m0, mm_bo_m1, b01, Int.toNat_natCast, Int.reduceToNat, Int.reduceNeg, Int.reduceSub, Int.reduceAdd, Int.reduceMul, Int.reduceLT, Int.reduceLE, Int.reduceEq, ↓reduceIte, not_true, not_false_eq_true, not_true_eq_false, and_self, true_and, and_true, false_and, and_false, Decidable.not_not, stv1, stv2, stv3, stv4]
    repeat (first | rw [if_pos (by omega)] | rw [if_neg (by omega)])
  | d + 1, i, N + 1, τ, h, h2, hs, hW => by
    obtain ⟨w16, w5, w6, w8⟩ := hW i (by omega)
    have c1 : ¬ (m : Int) ≤ (i : Int) := by omega
    have WM := waitM (τ := τ) (p := i) (m := m) (by omega) hm w16 (fun q hq => (hW q hq).2)
    have e1 : ∀ v, iw τ 17 i v 13 i = τ 13 i := fun v => iw_ne (by omega)
    have e2 : ∀ v, iw τ 17 i v 17 i = v := fun v => iw_eq rfl rfl
    have fin : ∀ v u : Int, (if (τ 5 i = 2 ∧ τ 8 i = 1) ∧ mwF τ i = 0 then 1 else 0) = v → (if (τ 5 i = 2 ∧ τ 8 i = 1) ∧ ¬ mwF τ i = 0 then 1 else 0) = u → mm_lk z (fX7_stepOff_L2 K) N (mI ((i + 1 : Nat) : Int)) (enc (iw (iw τ 17 i v) 13 i (τ 13 i + u))) = K (enc (eachM τ i m (fun p => flC (mwF τ p) (fun a => τ a p)))) := fun v u hv hu => by
      generalize hτ1 : iw (iw τ 17 i v) 13 i (τ 13 i + u) = τ1
      have k2 : ∀ a b, ¬ ((a = 17 ∨ a = 13) ∧ b = i) → τ1 a b = τ a b := fun a b hab => by rw [← hτ1, iw_ne (by omega), iw_ne (by omega)]
      have k1 : ∀ a, 5 ≤ a → a ≤ 17 → τ1 a i = flC (mwF τ i) (fun a => τ a i) a := fun a _ _ => by
        unfold flC
        dsimp only
        rw [hv, hu, ← hτ1]
        by_cases a17 : a = 17
        · rw [if_pos a17, iw_ne (by omega), a17, iw_eq rfl rfl]
        · by_cases a13 : a = 13
          · rw [if_neg a17, if_pos a13, a13, iw_eq rfl rfl]
          · rw [if_neg a17, if_neg a13, iw_ne (by omega), iw_ne (by omega)]
      have k3 : ∀ p, mwF τ1 p = mwF τ p := fun p => by
        unfold mwF
        rw [k2 16 p (by omega), k2 5 _ (by omega), k2 8 _ (by omega), k2 6 _ (by omega), k2 6 _ (by omega)]
      rw [← eachM_step (g := fun τ p => flC (mwF τ p) (fun a => τ a p)) (by omega) k1 (fun a b hab => k2 a b (by omega)) (fun p b hp => by rw [k3, show (fun a => τ1 a p) = (fun a => τ a p) from funext fun a => k2 _ _ (by omega)])]
      exact flagM_L hm d (i + 1) N τ1 (by omega) (by omega) (by rw [k2 _ _ (by omega)]; exact hs) (fun p hp => by rw [k2 _ _ (by omega), k2 _ _ (by omega), k2 _ _ (by omega), k2 _ _ (by omega)]; exact hW p hp)
    rw [mm_lk_s, fX7_stepOff_L2]
    by_cases c5 : τ 5 i = 2
    · by_cases c8 : τ 8 i = 1
      · rcases mwF_01 τ i with w | w
        · have F := fin 1 0 (if_pos ⟨⟨c5, c8⟩, w⟩) (if_neg (fun x => x.2 w))
          rw [w] at WM
          have o : ¬ (1 : Int) = 0 := by omega
          simp (implicitDefEqProofs := false) (maxSteps := 1000000) (disch := omega) only [hs, c1, eq_true c5, eq_true c8, ↓mm_lt_s, ↓cl_in, ↓cl_wi, ↓cl_has, ↓cl_isP, mL_le, lit_n, litL_n, mL_mI, mL_neg, mm_cl_s, mI_lt, mI_le, mI_eq, enc_at, enc_wr, enc_cp, mI_neg, mI_add, mI_sub, mI_mul, mI_ix, mm_ck_ok, mm_nz_ok, mm_bo_c, mm_bo_m0, mm_bo_m1, b01, Int.toNat_natCast, Int.reduceToNat, Int.reduceNeg, Int.reduceSub, Int.reduceAdd, Int.reduceMul, Int.reduceLT, Int.reduceLE, Int.reduceEq, ↓reduceIte, not_true, not_false_eq_true, not_true_eq_false, and_self, true_and, and_true, false_and, and_false, Decidable.not_not, stv1, stv2, stv3, stv4]
          rw [WM]
          simp (implicitDefEqProofs := false) (maxSteps := 1000000) (disch := omega) only [e1, e2, o, cast_s, ↓mm_lt_s, ↓cl_in, ↓cl_wi, ↓cl_has, ↓cl_isP, mL_le, lit_n, litL_n, mL_mI, mL_neg, mm_cl_s, mI_lt, mI_le, mI_eq, enc_at, enc_wr, enc_cp, mI_neg, mI_add, mI_sub, mI_mul, mI_ix, mm_ck_ok, mm_nz_ok, mm_bo_c, mm_bo_m0, mm_bo_m1, b01, Int.toNat_natCast, Int.reduceToNat, Int.reduceNeg, Int.reduceSub, Int.reduceAdd, Int.reduceMul, Int.reduceLT, Int.reduceLE, Int.reduceEq, ↓reduceIte, not_true, not_false_eq_true, not_true_eq_false, and_self, true_and, and_true, false_and, and_false, Decidable.not_not, stv1, stv2, stv3, stv4]
          exact F
        · have F := fin 0 1 (if_neg (fun x => by have := x.2; omega)) (if_pos ⟨⟨c5, c8⟩, by omega⟩)
          rw [w] at WM
          simp (implicitDefEqProofs := false) (maxSteps := 1000000) (disch := omega) only [hs, c1, eq_true c5, eq_true c8, ↓mm_lt_s, ↓cl_in, ↓cl_wi, ↓cl_has, ↓cl_isP, mL_le, lit_n, litL_n, mL_mI, mL_neg, mm_cl_s, mI_lt, mI_le, mI_eq, enc_at, enc_wr, enc_cp, mI_neg, mI_add, mI_sub, mI_mul, mI_ix, mm_ck_ok, mm_nz_ok, mm_bo_c, mm_bo_m0, mm_bo_m1, b01, Int.toNat_natCast, Int.reduceToNat, Int.reduceNeg, Int.reduceSub, Int.reduceAdd, Int.reduceMul, Int.reduceLT, Int.reduceLE, Int.reduceEq, ↓reduceIte, not_true, not_false_eq_true, not_true_eq_false, and_self, true_and, and_true, false_and, and_false, Decidable.not_not, stv1, stv2, stv3, stv4]
          rw [WM]
          simp (implicitDefEqProofs := false) (maxSteps := 1000000) (disch := omega) only [e1, e2, cast_s, ↓mm_lt_s, ↓cl_in, ↓cl_wi, ↓cl_has, ↓cl_isP, mL_le, lit_n, litL_n, mL_mI, mL_neg, mm_cl_s, mI_lt, mI_le, mI_eq, enc_at, enc_wr, enc_cp, mI_neg, mI_add, mI_sub, mI_mul, mI_ix, mm_ck_ok, mm_nz_ok, mm_bo_c, mm_bo_m0, mm_bo_m1, b01, Int.toNat_natCast, Int.reduceToNat, Int.reduceNeg, Int.reduceSub, Int.reduceAdd, Int.reduceMul, Int.reduceLT, Int.reduceLE, Int.reduceEq, ↓reduceIte, not_true, not_false_eq_true, not_true_eq_false, and_self, true_and, and_true, false_and, and_false, Decidable.not_not, stv1, stv2, stv3, stv4]
          exact F
      · have F := fin 0 0 (if_neg (fun x => c8 x.1.2)) (if_neg (fun x => c8 x.1.2))
        simp (implicitDefEqProofs := false) (maxSteps := 1000000) (disch := omega) only [hs, c1, eq_true c5, c8, e1, e2, cast_s, ↓mm_lt_s, ↓cl_in, ↓cl_wi, ↓cl_has, ↓cl_isP, mL_le, lit_n, litL_n, mL_mI, mL_neg, mm_cl_s, mI_lt, mI_le, mI_eq, enc_at, enc_wr, enc_cp, mI_neg, mI_add, mI_sub, mI_mul, mI_ix, mm_ck_ok, mm_nz_ok, mm_bo_c, mm_bo_m0, mm_bo_m1, b01, Int.toNat_natCast, Int.reduceToNat, Int.reduceNeg, Int.reduceSub, Int.reduceAdd, Int.reduceMul, Int.reduceLT, Int.reduceLE, Int.reduceEq, ↓reduceIte, not_true, not_false_eq_true, not_true_eq_false, and_self, true_and, and_true, false_and, and_false, Decidable.not_not, stv1, stv2, stv3, stv4]
        exact F
    · have F := fin 0 0 (if_neg (fun x => c5 x.1.1)) (if_neg (fun x => c5 x.1.1))
      simp (implicitDefEqProofs := false) (maxSteps := 1000000) (disch := omega) only [hs, c1, c5, e1, e2, cast_s, ↓mm_lt_s, ↓cl_in, ↓cl_wi, ↓cl_has, ↓cl_isP, mL_le, lit_n, litL_n, mL_mI, mL_neg, mm_cl_s, mI_lt, mI_le, mI_eq, enc_at, enc_wr, enc_cp, mI_neg, mI_add, mI_sub, mI_mul, mI_ix, mm_ck_ok, mm_nz_ok, mm_bo_c, mm_bo_m0, mm_bo_m1, b01, Int.toNat_natCast, Int.reduceToNat, Int.reduceNeg, Int.reduceSub, Int.reduceAdd, Int.reduceMul, Int.reduceLT, Int.reduceLE, Int.reduceEq, ↓reduceIte, not_true, not_false_eq_true, not_true_eq_false, and_self, true_and, and_true, false_and, and_false, Decidable.not_not, stv1, stv2, stv3, stv4]
      exact F
/-- the counts of a bank -/
def plF (τ : IM) (B : Int) : Nat → Nat → Nat → Nat
  | 0, _, c => c
  | d + 1, i, c => plF τ B d (i + 1) (if (τ 17 i = 1 ∧ ¬ τ 6 i = B) ∧ ¬ τ 1 (7 * i + 2) = 3 then c + 1 else c)
def psF (τ : IM) (B : Int) : Nat → Nat → Nat → Nat
  | 0, _, c => c
  | d + 1, i, c => psF τ B d (i + 1) (if (τ 17 i = 1 ∧ ¬ τ 6 i = B) ∧ τ 1 (7 * i + 2) = 3 then c + 1 else c)
theorem plF_le {τ : IM} {B : Int} : ∀ d i c, plF τ B d i c ≤ c + d
  | 0, _, c => Nat.le_refl c
  | d + 1, i, c => by
    unfold plF
    refine Nat.le_trans (plF_le d (i + 1) _) ?_
    split <;> omega
theorem psF_le {τ : IM} {B : Int} : ∀ d i c, psF τ B d i c ≤ c + d
  | 0, _, c => Nat.le_refl c
  | d + 1, i, c => by
    unfold psF
    refine Nat.le_trans (psF_le d (i + 1) _) ?_
    split <;> omega
theorem plF_cong {τ τ1 : IM} {B : Int} (h : ∀ a b, a ≠ 18 → τ1 a b = τ a b) : ∀ d i c, plF τ1 B d i c = plF τ B d i c ∧ psF τ1 B d i c = psF τ B d i c
  | 0, _, _ => ⟨rfl, rfl⟩
  | d + 1, i, c => by
    unfold plF psF
    rw [h 17 _ (by omega), h 6 _ (by omega), h 1 _ (by omega)]
    exact ⟨(plF_cong h d (i + 1) _).1, (plF_cong h d (i + 1) _).2⟩
theorem bankM_L {K : Int32 → Int32 → Mm → Aa} {z : Int32 → Int32 → Int32 → Mm → Aa} {m : Nat} {B : Int} {τ : IM} (hm : m ≤ 10) (hB : 0 ≤ B ∧ B ≤ 1) (hs : τ 0 1 = (m : Int)) (hW : ∀ p, p < m → (0 ≤ τ 17 p ∧ τ 17 p ≤ 1) ∧ (0 ≤ τ 6 p ∧ τ 6 p ≤ 1) ∧ (0 ≤ τ 1 (7 * p + 2) ∧ τ 1 (7 * p + 2) ≤ 3)) : ∀ (d i N c s : Nat), i + d = m → d < N → c ≤ i → s ≤ i → mm_lk z (fX7_stepOff_L110 (mI B) K) N (mI c) (mI s) (mI i) (enc τ) = K (mI (plF τ B d i c)) (mI (psF τ B d i s)) (enc τ)
  | d, i, 0, c, s, _, h, _, _ => absurd h (Nat.not_lt_zero d)
  | 0, i, N + 1, c, s, h, _, _, _ => by
    rw [mm_lk_s, fX7_stepOff_L110]
    simp (implicitDefEqProofs := false) (maxSteps := 1000000) (disch := omega) only [hs, ↓mm_lt_s, ↓cl_in, ↓cl_wi, ↓cl_has, ↓cl_isP, mL_le, lit_n, litL_n, mL_mI, mL_neg, mm_cl_s, mI_lt, mI_le, mI_eq, enc_at, enc_wr, enc_cp, mI_neg, mI_add, mI_sub, mI_mul, mI_ix, mm_ck_ok, mm_nz_ok, mm_bo_c, mm_bo_m0, mm_bo_m1, b01, Int.toNat_natCast, Int.reduceToNat, Int.reduceNeg, Int.reduceSub, Int.reduceAdd, Int.reduceMul, Int.reduceLT, Int.reduceLE, Int.reduceEq, ↓reduceIte, not_true, not_false_eq_true, not_true_eq_false, and_self, true_and, and_true, false_and, and_false, Decidable.not_not, stv1, stv2, stv3, stv4]
    repeat (first | rw [if_pos (by omega)] | rw [if_neg (by omega)])
    rfl
  | d + 1, i, N + 1, c, s, h, h2, hc, hss => by
    obtain ⟨w17, w6, w2⟩ := hW i (by omega)
    have c1 : ¬ (m : Int) ≤ (i : Int) := by omega
    have n2 : (7 * (i : Int) + 2).toNat = 7 * i + 2 := by omega
    have ih := fun c s h1 h2 => bankM_L (K := K) (z := z) hm hB hs hW d (i + 1) N c s (by omega) (by omega) h1 h2
    unfold plF psF
    by_cases c17 : τ 17 i = 1
    · by_cases c6 : τ 6 i = B
      · rw [if_neg (fun x => x.1.2 c6), if_neg (fun x => x.1.2 c6), ← ih c s (by omega) (by omega), mm_lk_s, fX7_stepOff_L110]
        have z1 : (c : Int) + 0 = c := by omega
        have z2 : (s : Int) + 0 = s := by omega
        simp (implicitDefEqProofs := false) (maxSteps := 1000000) (disch := omega) only [hs, c1, eq_true c17, eq_true c6, z1, z2, cast_s, ↓mm_lt_s, ↓cl_in, ↓cl_wi, ↓cl_has, ↓cl_isP, mL_le, lit_n, litL_n, mL_mI, mL_neg, mm_cl_s, mI_lt, mI_le, mI_eq, enc_at, enc_wr, enc_cp, mI_neg, mI_add, mI_sub, mI_mul, mI_ix, mm_ck_ok, mm_nz_ok, mm_bo_c, mm_bo_m0, mm_bo_m1, b01, Int.toNat_natCast, Int.reduceToNat, Int.reduceNeg, Int.reduceSub, Int.reduceAdd, Int.reduceMul, Int.reduceLT, Int.reduceLE, Int.reduceEq, ↓reduceIte, not_true, not_false_eq_true, not_true_eq_false, and_self, true_and, and_true, false_and, and_false, Decidable.not_not, stv1, stv2, stv3, stv4]
      · by_cases c2 : τ 1 (7 * i + 2) = 3
        · rw [if_neg (fun x => x.2 c2), if_pos ⟨⟨c17, c6⟩, c2⟩, ← ih c (s + 1) (by omega) (by omega), mm_lk_s, fX7_stepOff_L110]
          have z1 : (c : Int) + 0 = c := by omega
          have o : ¬ (1 : Int) = 0 := by omega
          simp (implicitDefEqProofs := false) (maxSteps := 1000000) (disch := omega) only [hs, c1, eq_true c17, c6, n2, eq_true c2, z1, o, cast_s, ↓mm_lt_s, ↓cl_in, ↓cl_wi, ↓cl_has, ↓cl_isP, mL_le, lit_n, litL_n, mL_mI, mL_neg, mm_cl_s, mI_lt, mI_le, mI_eq, enc_at, enc_wr, enc_cp, mI_neg, mI_add, mI_sub, mI_mul, mI_ix, mm_ck_ok, mm_nz_ok, mm_bo_c, mm_bo_m0, mm_bo_m1, b01, Int.toNat_natCast, Int.reduceToNat, Int.reduceNeg, Int.reduceSub, Int.reduceAdd, Int.reduceMul, Int.reduceLT, Int.reduceLE, Int.reduceEq, ↓reduceIte, not_true, not_false_eq_true, not_true_eq_false, and_self, true_and, and_true, false_and, and_false, Decidable.not_not, stv1, stv2, stv3, stv4]
        · rw [if_pos ⟨⟨c17, c6⟩, c2⟩, if_neg (fun x => c2 x.2), ← ih (c + 1) s (by omega) (by omega), mm_lk_s, fX7_stepOff_L110]
          have z2 : (s : Int) + 0 = s := by omega
          have o : ¬ (1 : Int) = 0 := by omega
          simp (implicitDefEqProofs := false) (maxSteps := 1000000) (disch := omega) only [hs, c1, eq_true c17, c6, n2, c2, z2, o, cast_s, ↓mm_lt_s, ↓cl_in, ↓cl_wi, ↓cl_has, ↓cl_isP, mL_le, lit_n, litL_n, mL_mI, mL_neg, mm_cl_s, mI_lt, mI_le, mI_eq, enc_at, enc_wr, enc_cp, mI_neg, mI_add, mI_sub, mI_mul, mI_ix, mm_ck_ok, mm_nz_ok, mm_bo_c, mm_bo_m0, mm_bo_m1, b01, Int.toNat_natCast, Int.reduceToNat, Int.reduceNeg, Int.reduceSub, Int.reduceAdd, Int.reduceMul, Int.reduceLT, Int.reduceLE, Int.reduceEq, ↓reduceIte, not_true, not_false_eq_true, not_true_eq_false, and_self, true_and, and_true, false_and, and_false, Decidable.not_not, stv1, stv2, stv3, stv4]
    · rw [if_neg (fun x => c17 x.1.1), if_neg (fun x => c17 x.1.1), ← ih c s (by omega) (by omega), mm_lk_s, fX7_stepOff_L110]
      have z1 : (c : Int) + 0 = c := by omega
      have z2 : (s : Int) + 0 = s := by omega
      simp (implicitDefEqProofs := false) (maxSteps := 1000000) (disch := omega) only [hs, c1, c17, z1, z2, cast_s, ↓mm_lt_s, ↓cl_in, ↓cl_wi, ↓cl_has, ↓cl_isP, mL_le, lit_n, litL_n, mL_mI, mL_neg, mm_cl_s, mI_lt, mI_le, mI_eq, enc_at, enc_wr, enc_cp, mI_neg, mI_add, mI_sub, mI_mul, mI_ix, mm_ck_ok, mm_nz_ok, mm_bo_c, mm_bo_m0, mm_bo_m1, b01, Int.toNat_natCast, Int.reduceToNat, Int.reduceNeg, Int.reduceSub, Int.reduceAdd, Int.reduceMul, Int.reduceLT, Int.reduceLE, Int.reduceEq, ↓reduceIte, not_true, not_false_eq_true, not_true_eq_false, and_self, true_and, and_true, false_and, and_false, Decidable.not_not, stv1, stv2, stv3, stv4]
/-- the bridge grows, in the reference -/
theorem growM {τ : IM} {c : Int} (hc : 0 ≤ c ∧ c ≤ 64) (h23 : 1 ≤ τ 0 23 ∧ τ 0 23 ≤ 400) (h25 : 0 ≤ τ 0 25 ∧ τ 0 25 ≤ 100000) (h0 : 0 ≤ τ 2 0 ∧ τ 2 0 ≤ 500) : fX7_grow (mI c) (enc τ) = some (mI 0, enc (iw (iw τ 0 25 (τ 0 25 + c)) 0 23 (if τ 0 23 + τ 2 0 * c < 400 then τ 0 23 + τ 2 0 * c else 400))) := by
  have m1 : 0 ≤ τ 2 0 * c := Int.mul_nonneg h0.1 hc.1
  have m2 : τ 2 0 * c ≤ 500 * 64 := Int.mul_le_mul h0.2 hc.2 hc.1 (by omega)
  have e1 : iw τ 0 25 (τ 0 25 + c) 0 23 = τ 0 23 := iw_ne (by omega)
  have e2 : iw τ 0 25 (τ 0 25 + c) 2 0 = τ 2 0 := iw_ne (by omega)
  have e3 : (if 400 < τ 0 23 + τ 2 0 * c then 400 else τ 0 23 + τ 2 0 * c) = (if τ 0 23 + τ 2 0 * c < 400 then τ 0 23 + τ 2 0 * c else 400) := by
    generalize τ 0 23 + τ 2 0 * c = v
    split <;> split <;> omega
  unfold fX7_grow
  simp (implicitDefEqProofs := false) (maxSteps := 1000000) (disch := omega) only [e1, e2, least_s, ↓mm_lt_s, ↓cl_in, ↓cl_wi, ↓cl_has, ↓cl_isP, mL_le, lit_n, litL_n, mL_mI, mL_neg, mm_cl_s, mI_lt, mI_le, mI_eq, enc_at, enc_wr, enc_cp, mI_neg, mI_add, mI_sub, mI_mul, mI_ix, mm_ck_ok, mm_nz_ok, mm_bo_c, mm_bo_m0, mm_bo_m1, b01, Int.toNat_natCast, Int.reduceToNat, Int.reduceNeg, Int.reduceSub, Int.reduceAdd, Int.reduceMul, Int.reduceLT, Int.reduceLE, Int.reduceEq, ↓reduceIte, not_true, not_false_eq_true, not_true_eq_false, and_self, true_and, and_true, false_and, and_false, Decidable.not_not, stv1, stv2, stv3, stv4]
  rw [e3]
/-- those whose flag stands come over, in the reference -/
def offC (t tr : Int) (y : Nat → Int) (a : Nat) : Int := if y 17 = 1 then comeC t tr y a else y a
theorem offM_L {K : Mm → Aa} {z : Int32 → Mm → Aa} {m : Nat} {t : Int} (hm : m ≤ 10) (ht : 0 ≤ t ∧ t ≤ 1000) : ∀ (d i N : Nat) (τ : IM), i + d = m → d < N → τ 0 1 = (m : Int) → (∀ p, i ≤ p → p < m → CB (fun a => τ a p) (fun j => τ 1 (7 * p + j)) ∧ 0 ≤ τ 17 p ∧ τ 17 p ≤ 1) → mm_lk z (fX7_stepOff_L237 (mI t) K) N (mI i) (enc τ) = K (enc (eachM τ i m (fun p => offC t (τ 1 (7 * p + 4)) (fun a => τ a p))))
  | d, i, 0, τ, _, h, _, _ => absurd h (Nat.not_lt_zero d)
  | 0, i, N + 1, τ, h, _, hs, _ => by
    have e : i = m := by omega
    subst e
    rw [mm_lk_s, fX7_stepOff_L237, eachM_nil]
    simp (implicitDefEqProofs := false) (maxSteps := 1000000) (disch := omega) only [hs, ↓mm_lt_s, ↓cl_in, ↓cl_wi, ↓cl_has, ↓cl_isP, mL_le, lit_n, litL_n, mL_mI, mL_neg, mm_cl_s, mI_lt, mI_le, mI_eq, enc_at, enc_wr, enc_cp, mI_neg, mI_add, mI_sub, mI_mul, mI_ix, mm_ck_ok, mm_nz_ok, mm_bo_c, mm_bo_m0, mm_bo_m1, b01, Int.toNat_natCast, Int.reduceToNat, Int.reduceNeg, Int.reduceSub, Int.reduceAdd, Int.reduceMul, Int.reduceLT, Int.reduceLE, Int.reduceEq, ↓reduceIte, not_true, not_false_eq_true, not_true_eq_false, and_self, true_and, and_true, false_and, and_false, Decidable.not_not, stv1, stv2, stv3, stv4]
    repeat (first | rw [if_pos (by omega)] | rw [if_neg (by omega)])
  | d + 1, i, N + 1, τ, h, h2, hs, hW => by
    obtain ⟨⟨w5, w6, w9, w10, w12, w14, u0, u2, u3, u4, u5⟩, w17⟩ := hW i (by omega) (by omega)
    dsimp only at *
    have c1 : ¬ (m : Int) ≤ (i : Int) := by omega
    have fin : ∀ τ1 : IM, (∀ a, 5 ≤ a → a ≤ 17 → τ1 a i = offC t (τ 1 (7 * i + 4)) (fun a => τ a i) a) → (∀ a b, ¬ ((5 ≤ a ∧ a ≤ 17) ∧ b = i) → τ1 a b = τ a b) → mm_lk z (fX7_stepOff_L237 (mI t) K) N (mI ((i + 1 : Nat) : Int)) (enc τ1) = K (enc (eachM τ i m (fun p => offC t (τ 1 (7 * p + 4)) (fun a => τ a p)))) := fun τ1 k1 k2 => by
      have r : ∀ p, p ≠ i → (fun a => τ1 a p) = (fun a => τ a p) := fun p hp => funext fun a => k2 _ _ (by omega)
      have r2 : ∀ j, τ1 1 j = τ 1 j := fun j => k2 _ _ (by omega)
      rw [← eachM_step (g := fun τ p => offC t (τ 1 (7 * p + 4)) (fun a => τ a p)) (by omega) k1 k2 (fun p b hp => by rw [r p hp, r2])]
      exact offM_L hm ht d (i + 1) N τ1 (by omega) (by omega) (by rw [k2 _ _ (by omega)]; exact hs) (fun p hp hp2 => by rw [r p (by omega), funext (fun j => r2 (7 * p + j)), k2 17 p (by omega)]; exact hW p (by omega) hp2)
    rw [mm_lk_s, fX7_stepOff_L237]
    by_cases c2 : τ 17 i = 1
    · obtain ⟨τ1, p1, p2, p3⟩ := comeM (τ := τ) (p := i) (by omega) ht w9 w6 u4
      simp (implicitDefEqProofs := false) (maxSteps := 1000000) (disch := omega) only [hs, c1, eq_true c2, ↓mm_lt_s, ↓cl_in, ↓cl_wi, ↓cl_has, ↓cl_isP, mL_le, lit_n, litL_n, mL_mI, mL_neg, mm_cl_s, mI_lt, mI_le, mI_eq, enc_at, enc_wr, enc_cp, mI_neg, mI_add, mI_sub, mI_mul, mI_ix, mm_ck_ok, mm_nz_ok, mm_bo_c, mm_bo_m0, mm_bo_m1, b01, Int.toNat_natCast, Int.reduceToNat, Int.reduceNeg, Int.reduceSub, Int.reduceAdd, Int.reduceMul, Int.reduceLT, Int.reduceLE, Int.reduceEq, ↓reduceIte, not_true, not_false_eq_true, not_true_eq_false, and_self, true_and, and_true, false_and, and_false, Decidable.not_not, stv1, stv2, stv3, stv4]
      rw [p1]
      simp (implicitDefEqProofs := false) (maxSteps := 1000000) (disch := omega) only [cast_s, ↓mm_lt_s, ↓cl_in, ↓cl_wi, ↓cl_has, ↓cl_isP, mL_le, lit_n, litL_n, mL_mI, mL_neg, mm_cl_s, mI_lt, mI_le, mI_eq, enc_at, enc_wr, enc_cp, mI_neg, mI_add, mI_sub, mI_mul, mI_ix, mm_ck_ok, mm_nz_ok, mm_bo_c, mm_bo_m0, mm_bo_m1, b01, Int.toNat_natCast, Int.reduceToNat, Int.reduceNeg, Int.reduceSub, Int.reduceAdd, Int.reduceMul, Int.reduceLT, Int.reduceLE, Int.reduceEq, ↓reduceIte, not_true, not_false_eq_true, not_true_eq_false, and_self, true_and, and_true, false_and, and_false, Decidable.not_not, stv1, stv2, stv3, stv4]
      refine fin τ1 (fun a h5 h6 => ?_) p3
      rw [p2 a h5 h6]
      unfold offC
      rw [if_pos c2]
    · simp (implicitDefEqProofs := false) (maxSteps := 1000000) (disch := omega) only [hs, c1, c2, cast_s, ↓mm_lt_s, ↓cl_in, ↓cl_wi, ↓cl_has, ↓cl_isP, mL_le, lit_n, litL_n, mL_mI, mL_neg, mm_cl_s, mI_lt, mI_le, mI_eq, enc_at, enc_wr, enc_cp, mI_neg, mI_add, mI_sub, mI_mul, mI_ix, mm_ck_ok, mm_nz_ok, mm_bo_c, mm_bo_m0, mm_bo_m1, b01, Int.toNat_natCast, Int.reduceToNat, Int.reduceNeg, Int.reduceSub, Int.reduceAdd, Int.reduceMul, Int.reduceLT, Int.reduceLE, Int.reduceEq, ↓reduceIte, not_true, not_false_eq_true, not_true_eq_false, and_self, true_and, and_true, false_and, and_false, Decidable.not_not, stv1, stv2, stv3, stv4]
      exact fin τ (fun b _ _ => by unfold offC; dsimp only; rw [if_neg c2]) (fun _ _ _ => rfl)
