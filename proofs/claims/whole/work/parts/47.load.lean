/-! days: the class loads and begins -/
theorem each_stepB {σ σ1 : IM} {i m : Nat} {g : IM → Nat → Nat → Int} (hi : i < m) (h1 : ∀ b, σ1 (34 + i) b = g σ i b) (h2 : ∀ a b, a ≠ 34 + i → σ1 a b = σ a b) (h3 : ∀ p b, p ≠ i → p < m → g σ1 p b = g σ p b) : each σ1 (i + 1) m (g σ1) = each σ i m (g σ) := by
  funext a b
  unfold each
  by_cases c : a = 34 + i
  · rw [if_neg (by omega), if_pos (by omega), c, h1, show 34 + i - 34 = i by omega]
  · by_cases c2 : 34 + i ≤ a ∧ a < 34 + m
    · rw [if_pos (by omega), if_pos c2, h3 _ _ (by omega) (by omega)]
    · rw [if_neg (by omega), if_neg c2, h2 _ _ c]
def begR (x : Nat → Int) (b : Nat) : Int := if b = 8 then 0 else if b = 9 then x 1 else if b = 10 then 0 else if b = 11 then x 0 else if b = 12 then 0 else if b = 13 then x 2 else if b = 14 then 1000 else if b = 15 then 0 else if b = 16 then 0 else if b = 17 then 0 else x b
theorem begR_lo {x : Nat → Int} {b : Nat} (hb : b < 8) : begR x b = x b := by
  unfold begR
  repeat (first | rw [if_pos (by omega)] | rw [if_neg (by omega)])
theorem begR_bd {x : Nat → Int} (h : XT x) : XD (begR x) 0 0 0 := by
  obtain ⟨s0, s1, s2, s3, s4, s5, s6, s7⟩ := h
  unfold XD
  simp (implicitDefEqProofs := false) only [begR, Nat.reduceEqDiff, Int.reduceEq, ne_eq, not_true_eq_false, not_false_eq_true, true_and, and_true, false_and, and_false, or_false, false_or, false_implies, true_implies, if_true, if_false, ↓reduceIte]
  omega
theorem begX {σ : IM} {p : Nat} : ∃ σ1 : IM, fX5_begin (34 + p) (enc σ) = some (mI 0, enc σ1) ∧ (∀ b, σ1 (34 + p) b = begR (σ (34 + p)) b) ∧ ∀ a b, a ≠ 34 + p → σ1 a b = σ a b := by
  have e1 : iw σ (34 + p) 8 0 (34 + p) 1 = σ (34 + p) 1 := iw_ne (by omega)
  have e2 : ∀ v w, iw (iw σ (34 + p) 8 v) (34 + p) 9 w (34 + p) 0 = σ (34 + p) 0 := fun v w => by rw [iw_ne (by omega), iw_ne (by omega)]
  have e3 : ∀ v w x y z, iw (iw (iw (iw (iw σ (34 + p) 8 v) (34 + p) 9 w) (34 + p) 11 x) (34 + p) 10 y) (34 + p) 12 z (34 + p) 2 = σ (34 + p) 2 := fun v w x y z => by rw [iw_ne (by omega), iw_ne (by omega), iw_ne (by omega), iw_ne (by omega), iw_ne (by omega)]
  refine ⟨iw (iw (iw (iw (iw (iw (iw (iw (iw (iw σ (34 + p) 8 0) (34 + p) 9 (σ (34 + p) 1)) (34 + p) 11 (σ (34 + p) 0)) (34 + p) 10 0) (34 + p) 12 0) (34 + p) 13 (σ (34 + p) 2)) (34 + p) 14 1000) (34 + p) 15 0) (34 + p) 16 0) (34 + p) 17 0, ?_, fun b => ?_, fun a b hab => ?_⟩
  · unfold fX5_begin
    simp (implicitDefEqProofs := false) (maxSteps := 1000000) (disch := omega) only [e1, e2, e3, ↓mm_lt_s, ↓cl_in, ↓cl_wi, ↓cl_has, ↓cl_isP, mL_le, lit_n, litL_n, mL_mI, mL_neg, mm_cl_s, mI_lt, mI_le, mI_eq, enc_at, enc_wr, enc_cp, mI_neg, mI_add, mI_sub, mI_mul, mI_ix, mm_ck_ok, mm_nz_ok, mm_bo_c, mm_bo_m0, mm_bo_m1, b01, Int.toNat_natCast, Int.reduceToNat, Int.reduceNeg, Int.reduceSub, Int.reduceAdd, Int.reduceMul, Int.reduceLT, Int.reduceLE, Int.reduceEq, ↓reduceIte, not_true, not_false_eq_true, not_true_eq_false, and_self, true_and, and_true, false_and, and_false, Decidable.not_not, stv1, stv2, stv3, stv4]
  · unfold begR iw
    by_cases b8 : b = 8
    · subst b8; repeat (first | rw [if_pos (by omega)] | rw [if_neg (by omega)])
    · by_cases b9 : b = 9
      · subst b9; repeat (first | rw [if_pos (by omega)] | rw [if_neg (by omega)])
      · by_cases b10 : b = 10
        · subst b10; repeat (first | rw [if_pos (by omega)] | rw [if_neg (by omega)])
        · by_cases b11 : b = 11
          · subst b11; repeat (first | rw [if_pos (by omega)] | rw [if_neg (by omega)])
          · by_cases b12 : b = 12
            · subst b12; repeat (first | rw [if_pos (by omega)] | rw [if_neg (by omega)])
            · by_cases b13 : b = 13
              · subst b13; repeat (first | rw [if_pos (by omega)] | rw [if_neg (by omega)])
              · by_cases b14 : b = 14
                · subst b14; repeat (first | rw [if_pos (by omega)] | rw [if_neg (by omega)])
                · by_cases b15 : b = 15
                  · subst b15; repeat (first | rw [if_pos (by omega)] | rw [if_neg (by omega)])
                  · by_cases b16 : b = 16
                    · subst b16; repeat (first | rw [if_pos (by omega)] | rw [if_neg (by omega)])
                    · by_cases b17 : b = 17
                      · subst b17; repeat (first | rw [if_pos (by omega)] | rw [if_neg (by omega)])
                      · repeat (first | rw [if_pos (by omega)] | rw [if_neg (by omega)])
  · rw [iw_ne (by omega), iw_ne (by omega), iw_ne (by omega), iw_ne (by omega), iw_ne (by omega), iw_ne (by omega), iw_ne (by omega), iw_ne (by omega), iw_ne (by omega), iw_ne (by omega)]
theorem begX_L {K : Mm → Aa} {z : Int32 → Mm → Aa} {m : Nat} (hm : m ≤ 10) : ∀ (d i N : Nat) (σ : IM), i + d = m → d < N → σ 30 6 = (m : Int) → mm_lk z (fX0_begin_L43 K) N (mI i) (enc σ) = K (enc (each σ i m (fun p => begR (σ (34 + p)))))
  | d, i, 0, σ, _, h, _ => absurd h (Nat.not_lt_zero d)
  | 0, i, N + 1, σ, h, _, hs => by
    have e : i = m := by omega
    subst e
    rw [mm_lk_s, fX0_begin_L43, each_nil]
    simp (implicitDefEqProofs := false) (maxSteps := 1000000) (disch := omega) only [hs, ↓mm_lt_s, ↓cl_in, ↓cl_wi, ↓cl_has, ↓cl_isP, mL_le, lit_n, litL_n, mL_mI, mL_neg, mm_cl_s, mI_lt, mI_le, mI_eq, enc_at, enc_wr, enc_cp, mI_neg, mI_add, mI_sub, mI_mul, mI_ix, mm_ck_ok, mm_nz_ok, mm_bo_c, mm_bo_m0, mm_bo_m1, b01, Int.toNat_natCast, Int.reduceToNat, Int.reduceNeg, Int.reduceSub, Int.reduceAdd, Int.reduceMul, Int.reduceLT, Int.reduceLE, Int.reduceEq, ↓reduceIte, not_true, not_false_eq_true, not_true_eq_false, and_self, true_and, and_true, false_and, and_false, Decidable.not_not, stv1, stv2, stv3, stv4]
    repeat (first | rw [if_pos (by omega)] | rw [if_neg (by omega)])
  | d + 1, i, N + 1, σ, h, h2, hs => by
    have c1 : ¬ (m : Int) ≤ (i : Int) := by omega
    obtain ⟨σ1, p1, k1, k2⟩ := begX (σ := σ) (p := i)
    have r : ∀ p, p ≠ i → σ1 (34 + p) = σ (34 + p) := fun p hp => funext fun b => k2 _ _ (by omega)
    rw [← each_step (g := fun σ p => begR (σ (34 + p))) (by omega) k1 k2 (fun p b hp => by rw [r p hp])]
    rw [← begX_L (K := K) (z := z) hm d (i + 1) N σ1 (by omega) (by omega) (by rw [k2 _ _ (by omega)]; exact hs)]
    rw [mm_lk_s, fX0_begin_L43]
    simp (implicitDefEqProofs := false) (maxSteps := 1000000) (disch := omega) only [hs, c1, ↓mm_lt_s, ↓cl_in, ↓cl_wi, ↓cl_has, ↓cl_isP, mL_le, lit_n, litL_n, mL_mI, mL_neg, mm_cl_s, mI_lt, mI_le, mI_eq, enc_at, enc_wr, enc_cp, mI_neg, mI_add, mI_sub, mI_mul, mI_ix, mm_ck_ok, mm_nz_ok, mm_bo_c, mm_bo_m0, mm_bo_m1, b01, Int.toNat_natCast, Int.reduceToNat, Int.reduceNeg, Int.reduceSub, Int.reduceAdd, Int.reduceMul, Int.reduceLT, Int.reduceLE, Int.reduceEq, ↓reduceIte, not_true, not_false_eq_true, not_true_eq_false, and_self, true_and, and_true, false_and, and_false, Decidable.not_not, stv1, stv2, stv3, stv4]
    rw [p1]
    simp (implicitDefEqProofs := false) (maxSteps := 1000000) (disch := omega) only [cast_s, ↓mm_lt_s, ↓cl_in, ↓cl_wi, ↓cl_has, ↓cl_isP, mL_le, lit_n, litL_n, mL_mI, mL_neg, mm_cl_s, mI_lt, mI_le, mI_eq, enc_at, enc_wr, enc_cp, mI_neg, mI_add, mI_sub, mI_mul, mI_ix, mm_ck_ok, mm_nz_ok, mm_bo_c, mm_bo_m0, mm_bo_m1, b01, Int.toNat_natCast, Int.reduceToNat, Int.reduceNeg, Int.reduceSub, Int.reduceAdd, Int.reduceMul, Int.reduceLT, Int.reduceLE, Int.reduceEq, ↓reduceIte, not_true, not_false_eq_true, not_true_eq_false, and_self, true_and, and_true, false_and, and_false, Decidable.not_not, stv1, stv2, stv3, stv4]
def begB (σ : IM) : IM := iw (iw (iw (iw (iw σ 30 3 (σ 30 7)) 30 4 (σ 32 4)) 30 5 0) 33 0 (-1000)) 33 1 (-1000)
def beginF (m : Nat) (σ : IM) : IM := each (begB σ) 0 m (fun p => begR (begB σ (34 + p)))
theorem beginX {m : Nat} {σ : IM} (hm : m ≤ 10) (hs : σ 30 6 = (m : Int)) : fX0_begin (enc σ) = some (mI 0, enc (beginF m σ)) := by
  have e1 : iw σ 30 3 (σ 30 7) 32 4 = σ 32 4 := iw_ne (by omega)
  unfold fX0_begin
  generalize hfu : mm_fu = NF; have hNF : 4096 ≤ NF := by rw [← hfu]; exact Nat.le_refl _
  simp (implicitDefEqProofs := false) (maxSteps := 1000000) (disch := omega) only [e1, ↓mm_lt_s, ↓cl_in, ↓cl_wi, ↓cl_has, ↓cl_isP, mL_le, lit_n, litL_n, mL_mI, mL_neg, mm_cl_s, mI_lt, mI_le, mI_eq, enc_at, enc_wr, enc_cp, mI_neg, mI_add, mI_sub, mI_mul, mI_ix, mm_ck_ok, mm_nz_ok, mm_bo_c, mm_bo_m0, mm_bo_m1, b01, Int.toNat_natCast, Int.reduceToNat, Int.reduceNeg, Int.reduceSub, Int.reduceAdd, Int.reduceMul, Int.reduceLT, Int.reduceLE, Int.reduceEq, ↓reduceIte, not_true, not_false_eq_true, not_true_eq_false, and_self, true_and, and_true, false_and, and_false, Decidable.not_not, stv1, stv2, stv3, stv4]
  have E := begX_L (K := fun m7 => some (mI 0, m7)) (z := fun _ _ => none) hm m 0 NF (begB σ) (by omega) (by omega) (by unfold begB; rw [iw_ne (by omega), iw_ne (by omega), iw_ne (by omega), iw_ne (by omega), iw_ne (by omega)]; exact hs)
  rw [cast0] at E
  exact E
theorem beginF_row {m p : Nat} {σ : IM} (hp : p < m) : beginF m σ (34 + p) = begR (σ (34 + p)) := by
  have e : begB σ (34 + p) = σ (34 + p) := funext fun b => by
    unfold begB
    rw [iw_ne (by omega), iw_ne (by omega), iw_ne (by omega), iw_ne (by omega), iw_ne (by omega)]
  funext b
  unfold beginF
  rw [each_in (by omega) hp, e]
theorem beginF_ne {m a b : Nat} {σ : IM} (h : ¬ (34 ≤ a ∧ a < 34 + m)) (h2 : ¬ (a = 33 ∧ b < 2)) (h3 : ¬ (a = 30 ∧ (b = 3 ∨ b = 4 ∨ b = 5))) : beginF m σ a b = σ a b := by
  unfold beginF begB
  rw [each_ne (by omega), iw_ne (by omega), iw_ne (by omega), iw_ne (by omega), iw_ne (by omega), iw_ne (by omega)]
theorem beginF_g {m : Nat} {σ : IM} : beginF m σ 30 3 = σ 30 7 ∧ beginF m σ 30 4 = σ 32 4 ∧ beginF m σ 30 5 = 0 ∧ beginF m σ 33 0 = -1000 ∧ beginF m σ 33 1 = -1000 := by
  unfold beginF begB
  refine ⟨?_, ?_, ?_, ?_, ?_⟩
  · rw [each_ne (by omega), iw_ne (by omega), iw_ne (by omega), iw_ne (by omega), iw_ne (by omega), iw_eq rfl rfl]
  · rw [each_ne (by omega), iw_ne (by omega), iw_ne (by omega), iw_ne (by omega), iw_eq rfl rfl]
  · rw [each_ne (by omega), iw_ne (by omega), iw_ne (by omega), iw_eq rfl rfl]
  · rw [each_ne (by omega), iw_ne (by omega), iw_eq rfl rfl]
  · rw [each_ne (by omega), iw_eq rfl rfl]
/-- what a loaded day keeps to -/
def LD (σ : IM) (m : Nat) : Prop := (σ 30 6 = (m : Int) ∧ m ≤ 10) ∧ (1 ≤ σ 30 7 ∧ σ 30 7 ≤ 400) ∧ (-1 ≤ σ 30 2 ∧ σ 30 2 < 1024) ∧ (∀ j, j < 6 → 0 ≤ σ 32 j ∧ σ 32 j ≤ 200) ∧ ∀ p, p < m → XT (σ (34 + p))
theorem LD.XI {σ : IM} {m : Nat} (h : LD σ m) : XI (beginF m σ) m 0 := by
  obtain ⟨⟨h1, hm⟩, h7, h2, hL, hT⟩ := h
  obtain ⟨b3, b4, b5, b6, b7⟩ := beginF_g (m := m) (σ := σ)
  have l4 := hL 4 (by omega)
  refine ⟨⟨⟨?_, hm⟩, ?_, ?_, ?_, ?_, fun j hj => ?_, fun b hb => ?_⟩, fun p hp => ?_⟩
  · rw [beginF_ne (by omega) (by omega) (by omega)]; exact h1
  · rw [b3]; exact h7
  · rw [b4]; omega
  · rw [beginF_ne (by omega) (by omega) (by omega)]; exact h2
  · rw [b5]; omega
  · rw [beginF_ne (by omega) (by omega) (by omega)]; exact hL j hj
  · by_cases c : b = 0
    · rw [c, b6]; omega
    · rw [show b = 1 by omega, b7]; omega
  · rw [beginF_row hp]
    exact ⟨(hT p hp).cong (fun b hb => begR_lo hb), begR_bd (hT p hp)⟩
theorem runX {P : Int → IM → Prop} {m : Nat} {last : Int} {σ : IM} (h0 : 0 ≤ last) (hl : last ≤ 999) (h : LD σ m) (hs : ∀ t σ, 0 ≤ t → t ≤ last → XI σ m t → P t σ → P (t + 1) (minF t m σ)) (hP : P 0 (beginF m σ)) : ∃ σ' : IM, fX0_run (mI last) (enc σ) = some (mI 0, enc σ') ∧ XI σ' m (last + 1) ∧ P (last + 1) σ' := by
  obtain ⟨σ', a1, a2, a3⟩ := runL (P := P) hl hs (last + 1).toNat 0 (beginF m σ) (by omega) (by omega) (by omega) h.XI hP
  refine ⟨σ', ?_, a2, a3⟩
  have B := beginX h.1.2 h.1.1
  unfold fX0_run
  rw [B]
  generalize hfu : mm_fu = NF; have hNF : 4096 ≤ NF := by rw [← hfu]; exact Nat.le_refl _
  simp (implicitDefEqProofs := false) (maxSteps := 1000000) (disch := omega) only [↓mm_lt_s, ↓cl_in, ↓cl_wi, ↓cl_has, ↓cl_isP, mL_le, lit_n, litL_n, mL_mI, mL_neg, mm_cl_s, mI_lt, mI_le, mI_eq, enc_at, enc_wr, enc_cp, mI_neg, mI_add, mI_sub, mI_mul, mI_ix, mm_ck_ok, mm_nz_ok, mm_bo_c, mm_bo_m0, mm_bo_m1, b01, Int.toNat_natCast, Int.reduceToNat, Int.reduceNeg, Int.reduceSub, Int.reduceAdd, Int.reduceMul, Int.reduceLT, Int.reduceLE, Int.reduceEq, ↓reduceIte, not_true, not_false_eq_true, not_true_eq_false, and_self, true_and, and_true, false_and, and_false, Decidable.not_not, stv1, stv2, stv3, stv4]
  exact a1 NF (by omega) (fun m4 => some (mI 0, m4)) (fun _ _ => none)
/-- a walker is loaded -/
theorem spitX (q : Nat) (σ : IM) (hq : q < 10) (h1 : 0 ≤ σ (4 + q) 2 ∧ σ (4 + q) 2 ≤ 3) : fX3_isSpiting (mI q) (enc σ) = some (mI (if σ (4 + q) 2 = 3 then 1 else 0), enc σ) := by
  unfold fX3_isSpiting
  by_cases c : σ (4 + q) 2 = 3
  · simp (implicitDefEqProofs := false) (maxSteps := 1000000) (disch := omega) only [c, ↓mm_lt_s, ↓cl_in, ↓cl_wi, ↓cl_has, ↓cl_isP, mL_le, lit_n, litL_n, mL_mI, mL_neg, mm_cl_s, mI_lt, mI_le, mI_eq, enc_at, enc_wr, enc_cp, mI_neg, mI_add, mI_sub, mI_mul, mI_ix, mm_ck_ok, mm_nz_ok, mm_bo_c, mm_bo_m0, mm_bo_m1, b01, Int.toNat_natCast, Int.reduceToNat, Int.reduceNeg, Int.reduceSub, Int.reduceAdd, Int.reduceMul, Int.reduceLT, Int.reduceLE, Int.reduceEq, ↓reduceIte, not_true, not_false_eq_true, not_true_eq_false, and_self, true_and, and_true, false_and, and_false, Decidable.not_not, stv1, stv2, stv3, stv4]
  · simp (implicitDefEqProofs := false) (maxSteps := 1000000) (disch := omega) only [c, ↓mm_lt_s, ↓cl_in, ↓cl_wi, ↓cl_has, ↓cl_isP, mL_le, lit_n, litL_n, mL_mI, mL_neg, mm_cl_s, mI_lt, mI_le, mI_eq, enc_at, enc_wr, enc_cp, mI_neg, mI_add, mI_sub, mI_mul, mI_ix, mm_ck_ok, mm_nz_ok, mm_bo_c, mm_bo_m0, mm_bo_m1, b01, Int.toNat_natCast, Int.reduceToNat, Int.reduceNeg, Int.reduceSub, Int.reduceAdd, Int.reduceMul, Int.reduceLT, Int.reduceLE, Int.reduceEq, ↓reduceIte, not_true, not_false_eq_true, not_true_eq_false, and_self, true_and, and_true, false_and, and_false, Decidable.not_not, stv1, stv2, stv3, stv4]
theorem lodX {σ : IM} {i q : Nat} (hi : i < 10) (hq : q < 10) (h1 : 0 ≤ σ (4 + q) 2 ∧ σ (4 + q) 2 ≤ 3) (h2 : 1 ≤ σ (4 + q) 3 ∧ σ (4 + q) 3 ≤ 20) : fX0_loadWalker (mI i) (mI q) (enc σ) = some (mI 0, enc (iw (iw (iw σ (34 + i) 2 (pac (σ (4 + q) 2) (σ (4 + q) 3))) (34 + i) 5 (if σ (4 + q) 2 = 3 then 1 else 0)) (34 + i) 6 i)) := by
  have P := paceX q σ hq h1 h2
  generalize pac (σ (4 + q) 2) (σ (4 + q) 3) = pc at *
  have e2 : iw σ (34 + i) 2 pc (4 + q) 2 = σ (4 + q) 2 := iw_ne (by omega)
  have S := spitX q (iw σ (34 + i) 2 pc) hq (by rw [e2]; exact h1)
  rw [e2] at S
  unfold fX0_loadWalker
  simp (implicitDefEqProofs := false) (maxSteps := 1000000) (disch := omega) only [↓mm_lt_s, ↓cl_in, ↓cl_wi, ↓cl_has, ↓cl_isP, mL_le, lit_n, litL_n, mL_mI, mL_neg, mm_cl_s, mI_lt, mI_le, mI_eq, enc_at, enc_wr, enc_cp, mI_neg, mI_add, mI_sub, mI_mul, mI_ix, mm_ck_ok, mm_nz_ok, mm_bo_c, mm_bo_m0, mm_bo_m1, b01, Int.toNat_natCast, Int.reduceToNat, Int.reduceNeg, Int.reduceSub, Int.reduceAdd, Int.reduceMul, Int.reduceLT, Int.reduceLE, Int.reduceEq, ↓reduceIte, not_true, not_false_eq_true, not_true_eq_false, and_self, true_and, and_true, false_and, and_false, Decidable.not_not, stv1, stv2, stv3, stv4]
  rw [P]
  simp (implicitDefEqProofs := false) (maxSteps := 1000000) (disch := omega) only [↓mm_lt_s, ↓cl_in, ↓cl_wi, ↓cl_has, ↓cl_isP, mL_le, lit_n, litL_n, mL_mI, mL_neg, mm_cl_s, mI_lt, mI_le, mI_eq, enc_at, enc_wr, enc_cp, mI_neg, mI_add, mI_sub, mI_mul, mI_ix, mm_ck_ok, mm_nz_ok, mm_bo_c, mm_bo_m0, mm_bo_m1, b01, Int.toNat_natCast, Int.reduceToNat, Int.reduceNeg, Int.reduceSub, Int.reduceAdd, Int.reduceMul, Int.reduceLT, Int.reduceLE, Int.reduceEq, ↓reduceIte, not_true, not_false_eq_true, not_true_eq_false, and_self, true_and, and_true, false_and, and_false, Decidable.not_not, stv1, stv2, stv3, stv4]
  rw [S]
  by_cases c : σ (4 + q) 2 = 3
  · rw [if_pos c]
    simp (implicitDefEqProofs := false) (maxSteps := 1000000) (disch := omega) only [↓mm_lt_s, ↓cl_in, ↓cl_wi, ↓cl_has, ↓cl_isP, mL_le, lit_n, litL_n, mL_mI, mL_neg, mm_cl_s, mI_lt, mI_le, mI_eq, enc_at, enc_wr, enc_cp, mI_neg, mI_add, mI_sub, mI_mul, mI_ix, mm_ck_ok, mm_nz_ok, mm_bo_c, mm_bo_m0, mm_bo_m1, b01, Int.toNat_natCast, Int.reduceToNat, Int.reduceNeg, Int.reduceSub, Int.reduceAdd, Int.reduceMul, Int.reduceLT, Int.reduceLE, Int.reduceEq, ↓reduceIte, not_true, not_false_eq_true, not_true_eq_false, and_self, true_and, and_true, false_and, and_false, Decidable.not_not, stv1, stv2, stv3, stv4]
  · rw [if_neg c]
    simp (implicitDefEqProofs := false) (maxSteps := 1000000) (disch := omega) only [↓mm_lt_s, ↓cl_in, ↓cl_wi, ↓cl_has, ↓cl_isP, mL_le, lit_n, litL_n, mL_mI, mL_neg, mm_cl_s, mI_lt, mI_le, mI_eq, enc_at, enc_wr, enc_cp, mI_neg, mI_add, mI_sub, mI_mul, mI_ix, mm_ck_ok, mm_nz_ok, mm_bo_c, mm_bo_m0, mm_bo_m1, b01, Int.toNat_natCast, Int.reduceToNat, Int.reduceNeg, Int.reduceSub, Int.reduceAdd, Int.reduceMul, Int.reduceLT, Int.reduceLE, Int.reduceEq, ↓reduceIte, not_true, not_false_eq_true, not_true_eq_false, and_self, true_and, and_true, false_and, and_false, Decidable.not_not, stv1, stv2, stv3, stv4]
def ldR (σ : IM) (p b : Nat) : Int := if b = 0 then σ (4 + p) 0 else if b = 1 then σ (4 + p) 1 else if b = 2 then pac (σ (4 + p) 2) (σ (4 + p) 3) else if b = 3 then σ (4 + p) 4 else if b = 4 then σ (4 + p) 5 else if b = 5 then (if σ (4 + p) 2 = 3 then 1 else 0) else if b = 6 then p else if b = 7 then (if σ (4 + p) 6 = -1 then 0 else ((2 ^ (σ (4 + p) 6).toNat : Nat) : Int)) else σ (34 + p) b
theorem shl_all : ∀ k, k < 10 → (mI 1 <<< (mI ((k : Nat) : Int) &&& mI 31)) = mI ((2 ^ k : Nat) : Int) := by decide +kernel
theorem loadX_L {K : Mm → Aa} {z : Int32 → Mm → Aa} {m : Nat} (hm : m ≤ 10) : ∀ (d i N : Nat) (σ : IM), i + d = m → d < N → σ 30 6 = (m : Int) → (∀ p, p < m → (0 ≤ σ (4 + p) 2 ∧ σ (4 + p) 2 ≤ 3) ∧ (1 ≤ σ (4 + p) 3 ∧ σ (4 + p) 3 ≤ 20) ∧ -1 ≤ σ (4 + p) 6 ∧ σ (4 + p) 6 < m) → mm_lk z (fX0_load_L16 K) N (mI i) (enc σ) = K (enc (each σ i m (ldR σ)))
  | d, i, 0, σ, _, h, _, _ => absurd h (Nat.not_lt_zero d)
  | 0, i, N + 1, σ, h, _, hs, _ => by
    have e : i = m := by omega
    subst e
    rw [mm_lk_s, fX0_load_L16, each_nil]
    simp (implicitDefEqProofs := false) (maxSteps := 1000000) (disch := omega) only [hs, ↓mm_lt_s, ↓cl_in, ↓cl_wi, ↓cl_has, ↓cl_isP, mL_le, lit_n, litL_n, mL_mI, mL_neg, mm_cl_s, mI_lt, mI_le, mI_eq, enc_at, enc_wr, enc_cp, mI_neg, mI_add, mI_sub, mI_mul, mI_ix, mm_ck_ok, mm_nz_ok, mm_bo_c, mm_bo_m0, mm_bo_m1, b01, Int.toNat_natCast, Int.reduceToNat, Int.reduceNeg, Int.reduceSub, Int.reduceAdd, Int.reduceMul, Int.reduceLT, Int.reduceLE, Int.reduceEq, ↓reduceIte, not_true, not_false_eq_true, not_true_eq_false, and_self, true_and, and_true, false_and, and_false, Decidable.not_not, stv1, stv2, stv3, stv4]
    repeat (first | rw [if_pos (by omega)] | rw [if_neg (by omega)])
  | d + 1, i, N + 1, σ, h, h2, hs, hF => by
    have c1 : ¬ (m : Int) ≤ (i : Int) := by omega
    obtain ⟨f2, f3, f6⟩ := hF i (by omega)
    have LX := lodX (σ := σ) (i := i) (q := i) (by omega) (by omega) f2 f3
    have fin : ∀ v : Int, (if σ (4 + i) 6 = -1 then 0 else ((2 ^ (σ (4 + i) 6).toNat : Nat) : Int)) = v → mm_lk z (fX0_load_L16 K) N (mI ((i + 1 : Nat) : Int)) (enc (iw (iw (iw (iw (iw (iw (iw (iw σ (34 + i) 2 (pac (σ (4 + i) 2) (σ (4 + i) 3))) (34 + i) 5 (if σ (4 + i) 2 = 3 then 1 else 0)) (34 + i) 6 i) (34 + i) 0 (σ (4 + i) 0)) (34 + i) 1 (σ (4 + i) 1)) (34 + i) 3 (σ (4 + i) 4)) (34 + i) 4 (σ (4 + i) 5)) (34 + i) 7 v)) = K (enc (each σ i m (ldR σ))) := fun v hv => by
      generalize hσ1 : (iw (iw (iw (iw (iw (iw (iw (iw σ (34 + i) 2 (pac (σ (4 + i) 2) (σ (4 + i) 3))) (34 + i) 5 (if σ (4 + i) 2 = 3 then 1 else 0)) (34 + i) 6 i) (34 + i) 0 (σ (4 + i) 0)) (34 + i) 1 (σ (4 + i) 1)) (34 + i) 3 (σ (4 + i) 4)) (34 + i) 4 (σ (4 + i) 5)) (34 + i) 7 v) = σ1
      have k2 : ∀ a b, a ≠ 34 + i → σ1 a b = σ a b := fun a b hab => by
        rw [← hσ1, iw_ne (by omega), iw_ne (by omega), iw_ne (by omega), iw_ne (by omega), iw_ne (by omega), iw_ne (by omega), iw_ne (by omega), iw_ne (by omega)]
      have k1 : ∀ b, σ1 (34 + i) b = ldR σ i b := fun b => by
        rw [← hσ1]
        unfold ldR iw
        rw [hv]
        by_cases b0 : b = 0
        · subst b0; repeat (first | rw [if_pos (by omega)] | rw [if_neg (by omega)])
        · by_cases b1 : b = 1
          · subst b1; repeat (first | rw [if_pos (by omega)] | rw [if_neg (by omega)])
          · by_cases b2 : b = 2
            · subst b2; repeat (first | rw [if_pos (by omega)] | rw [if_neg (by omega)])
            · by_cases b3 : b = 3
              · subst b3; repeat (first | rw [if_pos (by omega)] | rw [if_neg (by omega)])
              · by_cases b4 : b = 4
                · subst b4; repeat (first | rw [if_pos (by omega)] | rw [if_neg (by omega)])
                · by_cases b5 : b = 5
                  · rw [if_neg (by omega), if_neg (by omega), if_neg (by omega), if_neg (by omega), if_neg (by omega), if_neg (by omega), if_pos (by omega), if_neg b0, if_neg b1, if_neg b2, if_neg b3, if_neg b4, if_pos b5]
                  · by_cases b6 : b = 6
                    · subst b6; repeat (first | rw [if_pos (by omega)] | rw [if_neg (by omega)])
                    · by_cases b7 : b = 7
                      · subst b7; repeat (first | rw [if_pos (by omega)] | rw [if_neg (by omega)])
                      · repeat (first | rw [if_pos (by omega)] | rw [if_neg (by omega)])
      rw [← each_stepB (g := ldR) (by omega) k1 k2 (fun p b hp hpm => by
        unfold ldR
        rw [k2 _ _ (by omega), k2 _ _ (by omega), k2 _ _ (by omega), k2 _ _ (by omega), k2 _ _ (by omega), k2 _ _ (by omega), k2 _ _ (by omega), k2 _ _ (by omega)])]
      exact loadX_L hm d (i + 1) N σ1 (by omega) (by omega) (by rw [k2 _ _ (by omega)]; exact hs) (fun p hp => by rw [k2 _ _ (by omega), k2 _ _ (by omega), k2 _ _ (by omega)]; exact hF p hp)
    rw [mm_lk_s, fX0_load_L16]
    have w1 : ∀ a c v, iw σ (34 + i) a v (4 + i) c = σ (4 + i) c := fun a c v => iw_ne (by omega)
    generalize pac (σ (4 + i) 2) (σ (4 + i) 3) = pc at *
    generalize (if σ (4 + i) 2 = 3 then (1 : Int) else 0) = sp at *
    have E : ∀ (s : IM) (a c : Nat) (v : Int), iw s (34 + i) a v (4 + i) c = s (4 + i) c := fun s a c v => iw_ne (by omega)
    simp (implicitDefEqProofs := false) (maxSteps := 1000000) (disch := omega) only [hs, c1, ↓mm_lt_s, ↓cl_in, ↓cl_wi, ↓cl_has, ↓cl_isP, mL_le, lit_n, litL_n, mL_mI, mL_neg, mm_cl_s, mI_lt, mI_le, mI_eq, enc_at, enc_wr, enc_cp, mI_neg, mI_add, mI_sub, mI_mul, mI_ix, mm_ck_ok, mm_nz_ok, mm_bo_c, mm_bo_m0, mm_bo_m1, b01, Int.toNat_natCast, Int.reduceToNat, Int.reduceNeg, Int.reduceSub, Int.reduceAdd, Int.reduceMul, Int.reduceLT, Int.reduceLE, Int.reduceEq, ↓reduceIte, not_true, not_false_eq_true, not_true_eq_false, and_self, true_and, and_true, false_and, and_false, Decidable.not_not, stv1, stv2, stv3, stv4]
    rw [LX]
    by_cases c6 : σ (4 + i) 6 = -1
    · have F := fin 0 (if_pos c6)
      simp (implicitDefEqProofs := false) (maxSteps := 1000000) (disch := omega) only [E, c6, cast_s, ↓mm_lt_s, ↓cl_in, ↓cl_wi, ↓cl_has, ↓cl_isP, mL_le, lit_n, litL_n, mL_mI, mL_neg, mm_cl_s, mI_lt, mI_le, mI_eq, enc_at, enc_wr, enc_cp, mI_neg, mI_add, mI_sub, mI_mul, mI_ix, mm_ck_ok, mm_nz_ok, mm_bo_c, mm_bo_m0, mm_bo_m1, b01, Int.toNat_natCast, Int.reduceToNat, Int.reduceNeg, Int.reduceSub, Int.reduceAdd, Int.reduceMul, Int.reduceLT, Int.reduceLE, Int.reduceEq, ↓reduceIte, not_true, not_false_eq_true, not_true_eq_false, and_self, true_and, and_true, false_and, and_false, Decidable.not_not, stv1, stv2, stv3, stv4]
      exact F
    · have F := fin _ (if_neg c6)
      have SH := shl_all (σ (4 + i) 6).toNat (by omega)
      rw [show (((σ (4 + i) 6).toNat : Nat) : Int) = σ (4 + i) 6 by omega] at SH
      simp (implicitDefEqProofs := false) (maxSteps := 1000000) (disch := omega) only [E, c6, SH, cast_s, ↓mm_lt_s, ↓cl_in, ↓cl_wi, ↓cl_has, ↓cl_isP, mL_le, lit_n, litL_n, mL_mI, mL_neg, mm_cl_s, mI_lt, mI_le, mI_eq, enc_at, enc_wr, enc_cp, mI_neg, mI_add, mI_sub, mI_mul, mI_ix, mm_ck_ok, mm_nz_ok, mm_bo_c, mm_bo_m0, mm_bo_m1, b01, Int.toNat_natCast, Int.reduceToNat, Int.reduceNeg, Int.reduceSub, Int.reduceAdd, Int.reduceMul, Int.reduceLT, Int.reduceLE, Int.reduceEq, ↓reduceIte, not_true, not_false_eq_true, not_true_eq_false, and_self, true_and, and_true, false_and, and_false, Decidable.not_not, stv1, stv2, stv3, stv4]
      exact F
def lodB (m : Nat) (σ : IM) : IM := iw (icp (iw (iw σ 30 6 m) 30 7 (σ 1 0)) 2 32 0 0 6) 30 2 (-1)
def loadF (m : Nat) (σ : IM) : IM := each (lodB m σ) 0 m (ldR (lodB m σ))
theorem lodB_ne {m a b : Nat} {σ : IM} (h1 : ¬ (a = 30 ∧ (b = 2 ∨ b = 6 ∨ b = 7))) (h2 : ¬ (a = 32 ∧ b < 6)) : lodB m σ a b = σ a b := by
  unfold lodB
  rw [iw_ne (by omega), icp_ne (by omega), iw_ne (by omega), iw_ne (by omega)]
theorem brgX {σ : IM} {s : Int} (hs : 0 ≤ s ∧ s ≤ 10) : fX0_loadBridge (mI s) (enc σ) = some (mI 0, enc (icp (iw (iw σ 30 6 s) 30 7 (σ 1 0)) 2 32 0 0 6)) := by
  have c : ¬ 10 < s := by omega
  have e1 : iw σ 30 6 s 1 0 = σ 1 0 := iw_ne (by omega)
  unfold fX0_loadBridge
  simp (implicitDefEqProofs := false) (maxSteps := 1000000) (disch := omega) only [c, e1, mm_ac_ok, ↓mm_lt_s, ↓cl_in, ↓cl_wi, ↓cl_has, ↓cl_isP, mL_le, lit_n, litL_n, mL_mI, mL_neg, mm_cl_s, mI_lt, mI_le, mI_eq, enc_at, enc_wr, enc_cp, mI_neg, mI_add, mI_sub, mI_mul, mI_ix, mm_ck_ok, mm_nz_ok, mm_bo_c, mm_bo_m0, mm_bo_m1, b01, Int.toNat_natCast, Int.reduceToNat, Int.reduceNeg, Int.reduceSub, Int.reduceAdd, Int.reduceMul, Int.reduceLT, Int.reduceLE, Int.reduceEq, ↓reduceIte, not_true, not_false_eq_true, not_true_eq_false, and_self, true_and, and_true, false_and, and_false, Decidable.not_not, stv1, stv2, stv3, stv4]
theorem loadX {σ τ : IM} {m : Nat} (h : RX σ τ) (hm : τ 0 1 = (m : Int)) : fX0_load (enc σ) = some (mI 0, enc (loadF m σ)) := by
  obtain ⟨n1, n2⟩ := h.now
  have s1 : σ 1 1 = (m : Int) := by omega
  have B := brgX (σ := σ) (s := (m : Int)) (by omega)
  unfold fX0_load
  simp (implicitDefEqProofs := false) (maxSteps := 1000000) (disch := omega) only [s1, ↓mm_lt_s, ↓cl_in, ↓cl_wi, ↓cl_has, ↓cl_isP, mL_le, lit_n, litL_n, mL_mI, mL_neg, mm_cl_s, mI_lt, mI_le, mI_eq, enc_at, enc_wr, enc_cp, mI_neg, mI_add, mI_sub, mI_mul, mI_ix, mm_ck_ok, mm_nz_ok, mm_bo_c, mm_bo_m0, mm_bo_m1, b01, Int.toNat_natCast, Int.reduceToNat, Int.reduceNeg, Int.reduceSub, Int.reduceAdd, Int.reduceMul, Int.reduceLT, Int.reduceLE, Int.reduceEq, ↓reduceIte, not_true, not_false_eq_true, not_true_eq_false, and_self, true_and, and_true, false_and, and_false, Decidable.not_not, stv1, stv2, stv3, stv4]
  rw [B]
  generalize hfu : mm_fu = NF; have hNF : 4096 ≤ NF := by rw [← hfu]; exact Nat.le_refl _
  simp (implicitDefEqProofs := false) (maxSteps := 1000000) (disch := omega) only [↓mm_lt_s, ↓cl_in, ↓cl_wi, ↓cl_has, ↓cl_isP, mL_le, lit_n, litL_n, mL_mI, mL_neg, mm_cl_s, mI_lt, mI_le, mI_eq, enc_at, enc_wr, enc_cp, mI_neg, mI_add, mI_sub, mI_mul, mI_ix, mm_ck_ok, mm_nz_ok, mm_bo_c, mm_bo_m0, mm_bo_m1, b01, Int.toNat_natCast, Int.reduceToNat, Int.reduceNeg, Int.reduceSub, Int.reduceAdd, Int.reduceMul, Int.reduceLT, Int.reduceLE, Int.reduceEq, ↓reduceIte, not_true, not_false_eq_true, not_true_eq_false, and_self, true_and, and_true, false_and, and_false, Decidable.not_not, stv1, stv2, stv3, stv4]
  have E := loadX_L (K := fun m7 => some (mI 0, m7)) (z := fun _ _ => none) (m := m) (by omega) m 0 NF (lodB m σ) (by omega) (by omega) (by unfold lodB; rw [iw_ne (by omega), icp_ne (by omega), iw_ne (by omega), iw_eq rfl rfl]) (fun p hp => by
    obtain ⟨f1, f2, f3, f4⟩ := h.folk p (by omega)
    have t2 := f1 2 (by omega)
    have t3 := f1 3 (by omega)
    have e2 : tolLo 2 = 0 ∧ tolHi 2 = 3 := ⟨rfl, rfl⟩
    have e3 : tolLo 3 = 1 ∧ tolHi 3 = 20 := ⟨rfl, rfl⟩
    rw [lodB_ne (by omega) (by omega), lodB_ne (by omega) (by omega), lodB_ne (by omega) (by omega)]
    omega)
  rw [cast0] at E
  exact E
theorem loadF_row {m p : Nat} {σ : IM} (hp : p < m) (hm : m ≤ 10) : loadF m σ (34 + p) = ldR σ p := by
  funext b
  unfold loadF
  rw [each_in (by omega) hp]
  unfold ldR
  rw [lodB_ne (by omega) (by omega), lodB_ne (by omega) (by omega), lodB_ne (by omega) (by omega), lodB_ne (by omega) (by omega), lodB_ne (by omega) (by omega), lodB_ne (by omega) (by omega), lodB_ne (by omega) (by omega), lodB_ne (by omega) (by omega)]
theorem loadF_ne {m a b : Nat} {σ : IM} (h : ¬ (34 ≤ a ∧ a < 34 + m)) (h1 : ¬ (a = 30 ∧ (b = 2 ∨ b = 6 ∨ b = 7))) (h2 : ¬ (a = 32 ∧ b < 6)) : loadF m σ a b = σ a b := by
  unfold loadF
  rw [each_ne (by omega), lodB_ne h1 h2]
theorem loadF_g {m : Nat} {σ : IM} : loadF m σ 30 2 = -1 ∧ loadF m σ 30 6 = (m : Int) ∧ loadF m σ 30 7 = σ 1 0 ∧ ∀ j, j < 6 → loadF m σ 32 j = σ 2 j := by
  unfold loadF lodB
  refine ⟨?_, ?_, ?_, fun j hj => ?_⟩
  · rw [each_ne (by omega), iw_eq rfl rfl]
  · rw [each_ne (by omega), iw_ne (by omega), icp_ne (by omega), iw_ne (by omega), iw_eq rfl rfl]
  · rw [each_ne (by omega), iw_ne (by omega), icp_ne (by omega), iw_eq rfl rfl]
  · rw [each_ne (by omega), iw_ne (by omega), icp_in (by omega), iw_ne (by omega), iw_ne (by omega), show 0 + (j - 0) = j by omega]
