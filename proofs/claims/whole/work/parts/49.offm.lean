/-! days: the reference's step off, whole -/
def nM (m : Nat) (t : Int) (l : Nat) (τ : IM) : Int := cntV (plF τ l m 0 0 : Int) t (τ 18 l) (τ 0 26) (τ 2 2) + (psF τ l m 0 0 : Int)
def lM (m : Nat) (t : Int) (l : Nat) (τ : IM) : Int := if τ 0 26 = 2 ∧ ¬ (plF τ l m 0 0 : Int) = 0 ∧ ¬ t - τ 2 2 ≤ τ 18 l then t else τ 18 l
theorem nM_rng {m l : Nat} {t : Int} {τ : IM} (hm : m ≤ 10) : 0 ≤ nM m t l τ ∧ nM m t l τ ≤ 20 := by
  have h1 := psF_le (τ := τ) (B := l) m 0 0
  have h2 := plF_le (τ := τ) (B := l) m 0 0
  have h3 := cntV_rng (c := (plF τ l m 0 0 : Int)) (t := t) (last := τ 18 l) (l1 := τ 0 26) (l2 := τ 2 2) (by omega)
  unfold nM
  omega
/-- one bank -/
theorem bankT {K : Int32 → Mm → Aa} {z : Int32 → Int32 → Mm → Aa} {m l : Nat} {t x : Int} {τ : IM} (hl : l < 2) (hx : 0 ≤ x ∧ x ≤ 100) (hm : m ≤ 10) (ht : 0 ≤ t ∧ t ≤ 1000) (hs : τ 0 1 = (m : Int)) (hW : ∀ p, p < m → (0 ≤ τ 17 p ∧ τ 17 p ≤ 1) ∧ (0 ≤ τ 6 p ∧ τ 6 p ≤ 1) ∧ (0 ≤ τ 1 (7 * p + 2) ∧ τ 1 (7 * p + 2) ≤ 3)) (h26 : 0 ≤ τ 0 26 ∧ τ 0 26 ≤ 500) (h2 : 0 ≤ τ 2 2 ∧ τ 2 2 ≤ 500) (h18 : ∀ l, l < 2 → -1000 ≤ τ 18 l ∧ τ 18 l ≤ 1000) (N : Nat) : mm_lk z (fX7_stepOff_L96 (mI t) K) (N + 1) (mI x) (mI l) (enc τ) = mm_lk z (fX7_stepOff_L96 (mI t) K) N (mI (x + nM m t l τ)) (mI ((l + 1 : Nat) : Int)) (enc (iw τ 18 l (lM m t l τ))) := by
  have p0 := plF_le (τ := τ) (B := l) m 0 0
  have s0 := psF_le (τ := τ) (B := l) m 0 0
  have n0 := nM_rng (m := m) (l := l) (t := t) (τ := τ) hm
  have a0 := h18 l hl
  obtain ⟨τ1, C1, C2, C3⟩ := countM (τ := τ) (l := l) (c := (plF τ l m 0 0 : Int)) (s := (psF τ l m 0 0 : Int)) (t := t) hl (by omega) (by omega) ht h26 h2 a0
  have e1 : τ1 = iw τ 18 l (lM m t l τ) := by
    funext a b
    by_cases c : a = 18 ∧ b = l
    · rw [c.1, c.2, C3, iw_eq rfl rfl]
      rfl
    · rw [C2 a b c, iw_ne c]
  have B0 := fun K z NF (hNF : m < NF) => bankM_L (K := K) (z := z) (m := m) (B := l) (τ := τ) hm (by omega) hs hW m 0 NF 0 0 (by omega) hNF (by omega) (by omega)
  rw [← e1]
  have q0 : cntV (plF τ l m 0 0 : Int) t (τ 18 l) (τ 0 26) (τ 2 2) + (psF τ l m 0 0 : Int) = nM m t l τ := rfl
  rw [q0] at C1
  generalize nM m t l τ = x0 at *
  have c1 : ¬ (2 : Int) ≤ l := by omega
  have B1 := B0 (fun (x23 : Int32) (x24 : Int32) (m25 : Mm) => mm_cl (fX7_countsAt (mI l) (mI t) x23 x24 m25) (fun (x26 : Int32) (m27 : Mm) => mm_lk z (fX7_stepOff_L96 (mI t) K) N (mI x + x26) (mI l + mI 1) m27)) (fun _ _ _ _ => none)
  rw [mm_lk_s, fX7_stepOff_L96]
  generalize hfu : mm_fu = NF; have hNF : 4096 ≤ NF := by rw [← hfu]; exact Nat.le_refl _
  simp (implicitDefEqProofs := false) (maxSteps := 1000000) (disch := omega) only [c1, ↓mm_lt_s, ↓cl_in, ↓cl_wi, ↓cl_has, ↓cl_isP, mL_le, lit_n, litL_n, mL_mI, mL_neg, mm_cl_s, mI_lt, mI_le, mI_eq, enc_at, enc_wr, enc_cp, mI_neg, mI_add, mI_sub, mI_mul, mI_ix, mm_ck_ok, mm_nz_ok, mm_bo_c, mm_bo_m0, mm_bo_m1, b01, Int.toNat_natCast, Int.reduceToNat, Int.reduceNeg, Int.reduceSub, Int.reduceAdd, Int.reduceMul, Int.reduceLT, Int.reduceLE, Int.reduceEq, ↓reduceIte, not_true, not_false_eq_true, not_true_eq_false, and_self, true_and, and_true, false_and, and_false, Decidable.not_not, stv1, stv2, stv3, stv4]
  have B2 := B1 NF (by omega)
  rw [cast0] at B2
  refine Eq.trans B2 ?_
  rw [C1]
  simp (implicitDefEqProofs := false) (maxSteps := 1000000) (disch := omega) only [cast_s, ↓mm_lt_s, ↓cl_in, ↓cl_wi, ↓cl_has, ↓cl_isP, mL_le, lit_n, litL_n, mL_mI, mL_neg, mm_cl_s, mI_lt, mI_le, mI_eq, enc_at, enc_wr, enc_cp, mI_neg, mI_add, mI_sub, mI_mul, mI_ix, mm_ck_ok, mm_nz_ok, mm_bo_c, mm_bo_m0, mm_bo_m1, b01, Int.toNat_natCast, Int.reduceToNat, Int.reduceNeg, Int.reduceSub, Int.reduceAdd, Int.reduceMul, Int.reduceLT, Int.reduceLE, Int.reduceEq, ↓reduceIte, not_true, not_false_eq_true, not_true_eq_false, and_self, true_and, and_true, false_and, and_false, Decidable.not_not, stv1, stv2, stv3, stv4]
/-- both banks -/
theorem banksM {K : Int32 → Mm → Aa} {z : Int32 → Int32 → Mm → Aa} {m : Nat} {t : Int} {τ : IM} (hm : m ≤ 10) (ht : 0 ≤ t ∧ t ≤ 1000) (hs : τ 0 1 = (m : Int)) (hW : ∀ p, p < m → (0 ≤ τ 17 p ∧ τ 17 p ≤ 1) ∧ (0 ≤ τ 6 p ∧ τ 6 p ≤ 1) ∧ (0 ≤ τ 1 (7 * p + 2) ∧ τ 1 (7 * p + 2) ≤ 3)) (h26 : 0 ≤ τ 0 26 ∧ τ 0 26 ≤ 500) (h2 : 0 ≤ τ 2 2 ∧ τ 2 2 ≤ 500) (h18 : ∀ l, l < 2 → -1000 ≤ τ 18 l ∧ τ 18 l ≤ 1000) (N : Nat) : mm_lk z (fX7_stepOff_L96 (mI t) K) (N + 3) (mI 0) (mI 0) (enc τ) = K (mI (nM m t 0 τ + nM m t 1 τ)) (enc (iw (iw τ 18 0 (lM m t 0 τ)) 18 1 (lM m t 1 τ))) := by
  have n0 := nM_rng (m := m) (l := 0) (t := t) (τ := τ) hm
  have a0 := h18 0 (by omega)
  have r0 : -1000 ≤ lM m t 0 τ ∧ lM m t 0 τ ≤ 1000 := by
    unfold lM
    split <;> omega
  have T0 := bankT (K := K) (z := z) (m := m) (l := 0) (t := t) (x := 0) (τ := τ) (by omega) (by omega) hm ht hs hW h26 h2 h18 (N + 2)
  have f : ∀ a b, a ≠ 18 → iw τ 18 0 (lM m t 0 τ) a b = τ a b := fun a b h => iw_ne (fun x => h x.1)
  have f18 : iw τ 18 0 (lM m t 0 τ) 18 1 = τ 18 1 := iw_ne (by omega)
  have T1 := bankT (K := K) (z := z) (m := m) (l := 1) (t := t) (x := 0 + nM m t 0 τ) (τ := iw τ 18 0 (lM m t 0 τ)) (by omega) (by omega) hm ht (by rw [f _ _ (by omega)]; exact hs) (fun p hp => by rw [f _ _ (by omega), f _ _ (by omega), f _ _ (by omega)]; exact hW p hp) (by rw [f _ _ (by omega)]; exact h26) (by rw [f _ _ (by omega)]; exact h2) (fun l hl => by
    by_cases c : l = 0
    · rw [c, iw_eq rfl rfl]; exact r0
    · rw [iw_ne (by omega)]; exact h18 l hl) (N + 1)
  have cg := plF_cong (τ := τ) (τ1 := iw τ 18 0 (lM m t 0 τ)) (B := (1 : Nat)) f m 0 0
  have e1 : nM m t 1 (iw τ 18 0 (lM m t 0 τ)) = nM m t 1 τ := by
    unfold nM
    rw [cg.1, cg.2, f18, f _ _ (by omega), f _ _ (by omega)]
  have e2 : lM m t 1 (iw τ 18 0 (lM m t 0 τ)) = lM m t 1 τ := by
    unfold lM
    unfold lM at cg f18 f
    rw [cg.1, f18, f _ _ (by omega), f _ _ (by omega)]
  rw [e1, e2] at T1
  rw [show (((0 : Nat) : Int)) = 0 from rfl, show N + 2 = N + 1 + 1 from rfl] at T0
  have T2 := T0.trans T1
  rw [show N + 3 = N + 1 + 1 + 1 from rfl, T2, mm_lk_s, fX7_stepOff_L96, show (0 : Int) + nM m t 0 τ + nM m t 1 τ = nM m t 0 τ + nM m t 1 τ by omega, show ((1 + 1 : Nat) : Int) = 2 from rfl]
  simp (implicitDefEqProofs := false) (maxSteps := 1000000) (disch := omega) only [↓mm_lt_s, ↓cl_in, ↓cl_wi, ↓cl_has, ↓cl_isP, mL_le, lit_n, litL_n, mL_mI, mL_neg, mm_cl_s, mI_lt, mI_le, mI_eq, enc_at, enc_wr, enc_cp, mI_neg, mI_add, mI_sub, mI_mul, mI_ix, mm_ck_ok, mm_nz_ok, mm_bo_c, mm_bo_m0, mm_bo_m1, b01, Int.toNat_natCast, Int.reduceToNat, Int.reduceNeg, Int.reduceSub, Int.reduceAdd, Int.reduceMul, Int.reduceLT, Int.reduceLE, Int.reduceEq, ↓reduceIte, not_true, not_false_eq_true, not_true_eq_false, and_self, true_and, and_true, false_and, and_false, Decidable.not_not, stv1, stv2, stv3, stv4]
theorem CB.cong {y y' pe : Nat → Int} (h : CB y pe) (e : ∀ a, 5 ≤ a → a ≤ 17 → y' a = y a) : CB y' pe := by
  unfold CB at *
  rw [e 5 (by omega) (by omega), e 6 (by omega) (by omega), e 9 (by omega) (by omega), e 10 (by omega) (by omega), e 12 (by omega) (by omega), e 14 (by omega) (by omega)]
  exact h
theorem offCB {y pe : Nat → Int} {w : Int} (h : CB y pe) : CB (flC w y) pe ∧ 0 ≤ flC w y 17 ∧ flC w y 17 ≤ 1 := by
  have e : ∀ a, a ≠ 17 → a ≠ 13 → flC w y a = y a := fun a h1 h2 => by
    unfold flC
    rw [if_neg h1, if_neg h2]
  constructor
  · unfold CB at *
    rw [e 5 (by omega) (by omega), e 6 (by omega) (by omega), e 9 (by omega) (by omega), e 10 (by omega) (by omega), e 12 (by omega) (by omega), e 14 (by omega) (by omega)]
    exact h
  · unfold flC
    rw [if_pos rfl]
    split <;> omega
theorem offC_cong {t tr : Int} {y y' : Nat → Int} {a : Nat} (e : ∀ a, 5 ≤ a → a ≤ 17 → y a = y' a) (h5 : 5 ≤ a) (h6 : a ≤ 17) : offC t tr y a = offC t tr y' a := by
  unfold offC comeC
  rw [e 17 (by omega) (by omega), e 9 (by omega) (by omega), e 6 (by omega) (by omega), e a h5 h6]
theorem stepM {m : Nat} {t : Int} {τ : IM} (hm : m ≤ 10) (ht : 0 ≤ t ∧ t ≤ 1000) (hs : τ 0 1 = (m : Int)) (h26 : 0 ≤ τ 0 26 ∧ τ 0 26 ≤ 500) (h2 : 0 ≤ τ 2 2 ∧ τ 2 2 ≤ 500) (h0 : 0 ≤ τ 2 0 ∧ τ 2 0 ≤ 500) (h23 : 1 ≤ τ 0 23 ∧ τ 0 23 ≤ 400) (h25 : 0 ≤ τ 0 25 ∧ τ 0 25 ≤ 100000) (h18 : ∀ l, l < 2 → -1000 ≤ τ 18 l ∧ τ 18 l ≤ 1000) (hC : ∀ p, p < m → CB (fun a => τ a p) (fun j => τ 1 (7 * p + j)) ∧ (-10 ≤ τ 16 p ∧ τ 16 p < m) ∧ (0 ≤ τ 8 p ∧ τ 8 p ≤ 1)) : ∃ τ' : IM, fX7_stepOff (mI t) (enc τ) = some (mI 0, enc τ') ∧ (∀ p, p < m → ∀ a, 5 ≤ a → a ≤ 17 → τ' a p = offC t (τ 1 (7 * p + 4)) (flC (mwF τ p) (fun a => τ a p)) a) ∧ (∀ l, l < 2 → τ' 18 l = lM m t l (eachM τ 0 m (fun p => flC (mwF τ p) (fun a => τ a p)))) ∧ τ' 0 25 = τ 0 25 + (nM m t 0 (eachM τ 0 m (fun p => flC (mwF τ p) (fun a => τ a p))) + nM m t 1 (eachM τ 0 m (fun p => flC (mwF τ p) (fun a => τ a p)))) ∧ τ' 0 23 = (if τ 0 23 + τ 2 0 * (nM m t 0 (eachM τ 0 m (fun p => flC (mwF τ p) (fun a => τ a p))) + nM m t 1 (eachM τ 0 m (fun p => flC (mwF τ p) (fun a => τ a p)))) < 400 then τ 0 23 + τ 2 0 * (nM m t 0 (eachM τ 0 m (fun p => flC (mwF τ p) (fun a => τ a p))) + nM m t 1 (eachM τ 0 m (fun p => flC (mwF τ p) (fun a => τ a p)))) else 400) ∧ ∀ a b, ¬ ((5 ≤ a ∧ a ≤ 17) ∧ b < m) → ¬ (a = 18 ∧ b < 2) → ¬ (a = 0 ∧ (b = 23 ∨ b = 25)) → τ' a b = τ a b := by
  have FL := fun K z NF (hNF : 4096 ≤ NF) => flagM_L (K := K) (z := z) (m := m) hm m 0 NF τ (by omega) (by omega) hs (fun p hp => ⟨(hC p hp).2.1, (hC p hp).1.1, (hC p hp).1.2.1, (hC p hp).2.2⟩)
  generalize hτ1 : eachM τ 0 m (fun p => flC (mwF τ p) (fun a => τ a p)) = τ1 at *
  have k1 : ∀ p, p < m → ∀ a, 5 ≤ a → a ≤ 17 → τ1 a p = flC (mwF τ p) (fun a => τ a p) a := fun p hp a h5 h6 => by rw [← hτ1, eachM_in ⟨h5, h6⟩ (by omega) hp]
  have k2 : ∀ a b, ¬ ((5 ≤ a ∧ a ≤ 17) ∧ b < m) → τ1 a b = τ a b := fun a b h => by rw [← hτ1, eachM_ne (by omega)]
  have cb : ∀ p, p < m → CB (fun a => τ1 a p) (fun j => τ1 1 (7 * p + j)) ∧ 0 ≤ τ1 17 p ∧ τ1 17 p ≤ 1 := fun p hp => by
    obtain ⟨q1, q2⟩ := offCB (w := mwF τ p) (hC p hp).1
    have r : (fun j => τ1 1 (7 * p + j)) = (fun j => τ 1 (7 * p + j)) := funext fun j => k2 _ _ (by omega)
    rw [r, k1 p hp 17 (by omega) (by omega)]
    exact ⟨q1.cong (fun a h5 h6 => k1 p hp a h5 h6), q2⟩
  have BK := fun K z N => banksM (K := K) (z := z) (m := m) (t := t) (τ := τ1) hm ht (by rw [k2 _ _ (by omega)]; exact hs) (fun p hp => by
    obtain ⟨⟨w5, w6, w9, w10, w12, w14, u0, u2, u3, u4, u5⟩, q2⟩ := cb p hp
    exact ⟨q2, w6, u2⟩) (by rw [k2 _ _ (by omega)]; exact h26) (by rw [k2 _ _ (by omega)]; exact h2) (fun l hl => by rw [k2 _ _ (by omega)]; exact h18 l hl) N
  have n0 := nM_rng (m := m) (l := 0) (t := t) (τ := τ1) hm
  have n1 := nM_rng (m := m) (l := 1) (t := t) (τ := τ1) hm
  generalize hx0 : nM m t 0 τ1 = x0 at *
  generalize hx1 : nM m t 1 τ1 = x1 at *
  generalize hτ2 : iw (iw τ1 18 0 (lM m t 0 τ1)) 18 1 (lM m t 1 τ1) = τ2 at *
  have j2 : ∀ a b, ¬ (a = 18 ∧ b < 2) → τ2 a b = τ1 a b := fun a b h => by rw [← hτ2, iw_ne (by omega), iw_ne (by omega)]
  have OF := fun K z NF (hNF : 4096 ≤ NF) => offM_L (K := K) (z := z) (m := m) (t := t) hm ht m 0 NF τ2 (by omega) (by omega) (by rw [j2 _ _ (by omega), k2 _ _ (by omega)]; exact hs) (fun p _ hp => by
    have r : (fun j => τ2 1 (7 * p + j)) = (fun j => τ1 1 (7 * p + j)) := funext fun j => j2 _ _ (by omega)
    have := cb p hp
    rw [r, j2 17 _ (by omega)]
    exact ⟨this.1.cong (fun a h5 h6 => j2 a p (by omega)), this.2⟩)
  generalize hτ3 : eachM τ2 0 m (fun p => offC t (τ2 1 (7 * p + 4)) (fun a => τ2 a p)) = τ3 at *
  have i2 : ∀ a b, ¬ ((5 ≤ a ∧ a ≤ 17) ∧ b < m) → τ3 a b = τ2 a b := fun a b h => by rw [← hτ3, eachM_ne (by omega)]
  have z0 : ∀ b, τ3 0 b = τ 0 b := fun b => by rw [i2 _ _ (by omega), j2 _ _ (by omega), k2 _ _ (by omega)]
  have z2 : ∀ b, τ3 2 b = τ 2 b := fun b => by rw [i2 _ _ (by omega), j2 _ _ (by omega), k2 _ _ (by omega)]
  have GR := growM (τ := τ3) (c := x0 + x1) (by omega) (by rw [z0]; exact h23) (by rw [z0]; exact h25) (by rw [z2]; exact h0)
  refine ⟨iw (iw τ3 0 25 (τ3 0 25 + (x0 + x1))) 0 23 (if τ3 0 23 + τ3 2 0 * (x0 + x1) < 400 then τ3 0 23 + τ3 2 0 * (x0 + x1) else 400), ?_, ?_, ?_, ?_, ?_, ?_⟩
  rotate_left
  · intro p hp a h5 h6
    rw [iw_ne (by omega), iw_ne (by omega), ← hτ3, eachM_in ⟨h5, h6⟩ (by omega) hp, j2 _ _ (by omega), k2 _ _ (by omega)]
    have r : ∀ a, 5 ≤ a → a ≤ 17 → τ2 a p = flC (mwF τ p) (fun a => τ a p) a := fun a h5 h6 => by rw [j2 _ _ (by omega), k1 p hp a h5 h6]
    exact offC_cong r h5 h6
  · intro l hl
    rw [iw_ne (by omega), iw_ne (by omega), i2 _ _ (by omega), ← hτ2]
    by_cases c : l = 1
    · rw [c, iw_eq rfl rfl]
    · rw [show l = 0 by omega, iw_ne (by omega), iw_eq rfl rfl]
  · rw [iw_ne (by omega), iw_eq rfl rfl, z0]
  · rw [iw_eq rfl rfl, z0, z2]
  · intro a b h1 h2 h3
    rw [iw_ne (by omega), iw_ne (by omega), i2 _ _ h1, j2 _ _ h2, k2 _ _ h1]
  · unfold fX7_stepOff
    generalize hfu : mm_fu = NF; have hNF : 4096 ≤ NF := by rw [← hfu]; exact Nat.le_refl _
    simp (implicitDefEqProofs := false) (maxSteps := 1000000) (disch := omega) only [↓mm_lt_s, ↓cl_in, ↓cl_wi, ↓cl_has, ↓cl_isP, mL_le, lit_n, litL_n, mL_mI, mL_neg, mm_cl_s, mI_lt, mI_le, mI_eq, enc_at, enc_wr, enc_cp, mI_neg, mI_add, mI_sub, mI_mul, mI_ix, mm_ck_ok, mm_nz_ok, mm_bo_c, mm_bo_m0, mm_bo_m1, b01, Int.toNat_natCast, Int.reduceToNat, Int.reduceNeg, Int.reduceSub, Int.reduceAdd, Int.reduceMul, Int.reduceLT, Int.reduceLE, Int.reduceEq, ↓reduceIte, not_true, not_false_eq_true, not_true_eq_false, and_self, true_and, and_true, false_and, and_false, Decidable.not_not, stv1, stv2, stv3, stv4]
    have FL1 := FL (fun m2 => mm_lk (fun (_ : Int32) (_ : Int32) (_ : Mm) => (none : Aa)) (fX7_stepOff_L96 (mI t) (fun x5 m6 => mm_lk (fun (_ : Int32) (_ : Mm) => (none : Aa)) (fX7_stepOff_L237 (mI t) (fun m8 => mm_cl (fX7_grow x5 m8) (fun x9 m10 => some (0, m10)))) NF (mI 0) m6)) NF (mI 0) (mI 0) m2) (fun _ _ => none) NF hNF
    rw [cast0] at FL1
    refine Eq.trans FL1 ?_
    obtain ⟨N, rfl⟩ : ∃ N, NF = N + 3 := ⟨NF - 3, by omega⟩
    rw [BK]
    have OF1 := OF (fun m8 => mm_cl (fX7_grow (mI (x0 + x1)) m8) (fun x9 m10 => some (0, m10))) (fun _ _ => none) (N + 3) hNF
    rw [cast0] at OF1
    refine Eq.trans OF1 ?_
    rw [GR]
    rfl
