def haf (v : Int) : Int := if 1 < v / 2 then v / 2 else 1
theorem haf_rng {v : Int} (h1 : 1 ≤ v) (h2 : v ≤ 40) : 1 ≤ haf v ∧ haf v ≤ 40 := by
  unfold haf
  split <;> omega
/-- one steps on the bridge: the class's row; r: has it a rope -/
def onR (r : Int) (x : Nat → Int) (b : Nat) : Int := if b = 8 then 1 else if b = 12 then 0 else if b = 13 then (if r = 0 then haf (x 2) else x 2) else if b = 17 then x 17 + (1 - r) else x b
theorem onX {σ : IM} {p : Nat} {r : Int} (hr : r = 0 ∨ r = 1) (h2 : 1 ≤ σ (34 + p) 2 ∧ σ (34 + p) 2 ≤ 40) (h17 : 0 ≤ σ (34 + p) 17 ∧ σ (34 + p) 17 ≤ 1000) : ∃ σ1 : IM, fX5_stepOn (34 + p) (mI r) (enc σ) = some (mI 0, enc σ1) ∧ (∀ b, σ1 (34 + p) b = onR r (σ (34 + p)) b) ∧ ∀ a b, a ≠ 34 + p → σ1 a b = σ a b := by
  have e1 : iw (iw σ (34 + p) 8 1) (34 + p) 12 0 (34 + p) 2 = σ (34 + p) 2 := by rw [iw_ne (by omega), iw_ne (by omega)]
  have e2 : ∀ v : Int, iw (iw (iw σ (34 + p) 8 1) (34 + p) 12 0) (34 + p) 13 v (34 + p) 17 = σ (34 + p) 17 := fun v => by rw [iw_ne (by omega), iw_ne (by omega), iw_ne (by omega)]
  have key : ∀ v w : Int, (if r = 0 then haf (σ (34 + p) 2) else σ (34 + p) 2) = v → σ (34 + p) 17 + (1 - r) = w → (∀ b, iw (iw (iw (iw σ (34 + p) 8 1) (34 + p) 12 0) (34 + p) 13 v) (34 + p) 17 w (34 + p) b = onR r (σ (34 + p)) b) ∧ ∀ a b, a ≠ 34 + p → iw (iw (iw (iw σ (34 + p) 8 1) (34 + p) 12 0) (34 + p) 13 v) (34 + p) 17 w a b = σ a b := fun v w hv hw => by
    refine ⟨fun b => ?_, fun a b hab => by rw [iw_ne (by omega), iw_ne (by omega), iw_ne (by omega), iw_ne (by omega)]⟩
    unfold onR iw
    rw [hv, hw]
    by_cases b8 : b = 8
    · rw [if_neg (by omega), if_neg (by omega), if_neg (by omega), if_pos ⟨rfl, b8⟩, if_pos b8]
    · by_cases b12 : b = 12
      · rw [if_neg (by omega), if_neg (by omega), if_pos ⟨rfl, b12⟩, if_neg b8, if_pos b12]
      · by_cases b13 : b = 13
        · rw [if_neg (by omega), if_pos ⟨rfl, b13⟩, if_neg b8, if_neg b12, if_pos b13]
        · by_cases b17 : b = 17
          · rw [if_pos ⟨rfl, b17⟩, if_neg b8, if_neg b12, if_neg b13, if_pos b17]
          · rw [if_neg (by omega), if_neg (by omega), if_neg (by omega), if_neg (by omega), if_neg b8, if_neg b12, if_neg b13, if_neg b17]
  unfold fX5_stepOn
  rcases hr with rfl | rfl
  · obtain ⟨k1, k2⟩ := key _ _ (if_pos rfl) rfl
    refine ⟨_, ?_, k1, k2⟩
    simp (implicitDefEqProofs := false) (maxSteps := 1000000) (disch := omega) only [e1, ↓mm_lt_s, ↓cl_in, ↓cl_wi, ↓cl_has, ↓cl_isP, mL_le, lit_n, litL_n, mL_mI, mL_neg, mm_cl_s, mI_lt, mI_le, mI_eq, enc_at, enc_wr, enc_cp, mI_neg, mI_add, mI_sub, mI_mul, mI_ix, mm_ck_ok, mm_nz_ok, mm_bo_c, mm_bo_m0, mm_bo_m1, b01, Int.toNat_natCast, Int.reduceToNat, Int.reduceNeg, Int.reduceSub, Int.reduceAdd, Int.reduceMul, Int.reduceLT, Int.reduceLE, Int.reduceEq, ↓reduceIte, not_true, not_false_eq_true, not_true_eq_false, and_self, true_and, and_true, false_and, and_false, Decidable.not_not, stv1, stv2, stv3, stv4]
    rw [half_s _ _ (by omega) (by omega)]
    unfold haf
    simp (implicitDefEqProofs := false) (maxSteps := 1000000) (disch := omega) only [e2, ↓mm_lt_s, ↓cl_in, ↓cl_wi, ↓cl_has, ↓cl_isP, mL_le, lit_n, litL_n, mL_mI, mL_neg, mm_cl_s, mI_lt, mI_le, mI_eq, enc_at, enc_wr, enc_cp, mI_neg, mI_add, mI_sub, mI_mul, mI_ix, mm_ck_ok, mm_nz_ok, mm_bo_c, mm_bo_m0, mm_bo_m1, b01, Int.toNat_natCast, Int.reduceToNat, Int.reduceNeg, Int.reduceSub, Int.reduceAdd, Int.reduceMul, Int.reduceLT, Int.reduceLE, Int.reduceEq, ↓reduceIte, not_true, not_false_eq_true, not_true_eq_false, and_self, true_and, and_true, false_and, and_false, Decidable.not_not, stv1, stv2, stv3, stv4]
  · obtain ⟨k1, k2⟩ := key (σ (34 + p) 2) _ (if_neg (by omega)) rfl
    refine ⟨_, ?_, k1, k2⟩
    have z : σ (34 + p) 17 + (1 - 1) = σ (34 + p) 17 + 0 := by omega
    rw [z]
    simp (implicitDefEqProofs := false) (maxSteps := 1000000) (disch := omega) only [e1, e2, ↓mm_lt_s, ↓cl_in, ↓cl_wi, ↓cl_has, ↓cl_isP, mL_le, lit_n, litL_n, mL_mI, mL_neg, mm_cl_s, mI_lt, mI_le, mI_eq, enc_at, enc_wr, enc_cp, mI_neg, mI_add, mI_sub, mI_mul, mI_ix, mm_ck_ok, mm_nz_ok, mm_bo_c, mm_bo_m0, mm_bo_m1, b01, Int.toNat_natCast, Int.reduceToNat, Int.reduceNeg, Int.reduceSub, Int.reduceAdd, Int.reduceMul, Int.reduceLT, Int.reduceLE, Int.reduceEq, ↓reduceIte, not_true, not_false_eq_true, not_true_eq_false, and_self, true_and, and_true, false_and, and_false, Decidable.not_not, stv1, stv2, stv3, stv4]
theorem ropeX {σ : IM} {p : Nat} (h : σ 30 2 = -1) (h4 : 0 ≤ σ 30 4 ∧ σ 30 4 ≤ 1000) : fX0_takeRope (mI p) (enc σ) = if σ 30 4 = 0 then some (mI 0, enc σ) else some (mI 1, enc (iw σ 30 4 (σ 30 4 - 1))) := by
  unfold fX0_takeRope
  simp (implicitDefEqProofs := false) (maxSteps := 1000000) (disch := omega) only [h, ↓mm_lt_s, ↓cl_in, ↓cl_wi, ↓cl_has, ↓cl_isP, mL_le, lit_n, litL_n, mL_mI, mL_neg, mm_cl_s, mI_lt, mI_le, mI_eq, enc_at, enc_wr, enc_cp, mI_neg, mI_add, mI_sub, mI_mul, mI_ix, mm_ck_ok, mm_nz_ok, mm_bo_c, mm_bo_m0, mm_bo_m1, b01, Int.toNat_natCast, Int.reduceToNat, Int.reduceNeg, Int.reduceSub, Int.reduceAdd, Int.reduceMul, Int.reduceLT, Int.reduceLE, Int.reduceEq, ↓reduceIte, not_true, not_false_eq_true, not_true_eq_false, and_self, true_and, and_true, false_and, and_false, Decidable.not_not, stv1, stv2, stv3, stv4]
def fsR (v : Int) (x : Nat → Int) (b : Nat) : Int := if b = 8 then 3 else if b = 11 then v else x b
theorem fsX {σ : IM} {p : Nat} {v : Int} : ∃ σ1 : IM, fX5_startByFord (34 + p) (mI v) (enc σ) = some (mI 0, enc σ1) ∧ (∀ b, σ1 (34 + p) b = fsR v (σ (34 + p)) b) ∧ ∀ a b, a ≠ 34 + p → σ1 a b = σ a b := by
  refine ⟨iw (iw σ (34 + p) 8 3) (34 + p) 11 v, ?_, fun b => ?_, fun a b hab => by rw [iw_ne (by omega), iw_ne (by omega)]⟩
  · unfold fX5_startByFord
    simp (implicitDefEqProofs := false) (maxSteps := 1000000) (disch := omega) only [↓mm_lt_s, ↓cl_in, ↓cl_wi, ↓cl_has, ↓cl_isP, mL_le, lit_n, litL_n, mL_mI, mL_neg, mm_cl_s, mI_lt, mI_le, mI_eq, enc_at, enc_wr, enc_cp, mI_neg, mI_add, mI_sub, mI_mul, mI_ix, mm_ck_ok, mm_nz_ok, mm_bo_c, mm_bo_m0, mm_bo_m1, b01, Int.toNat_natCast, Int.reduceToNat, Int.reduceNeg, Int.reduceSub, Int.reduceAdd, Int.reduceMul, Int.reduceLT, Int.reduceLE, Int.reduceEq, ↓reduceIte, not_true, not_false_eq_true, not_true_eq_false, and_self, true_and, and_true, false_and, and_false, Decidable.not_not, stv1, stv2, stv3, stv4]
  · unfold fsR iw
    by_cases b8 : b = 8
    · rw [if_neg (by omega), if_pos ⟨rfl, b8⟩, if_pos b8]
    · by_cases b11 : b = 11
      · rw [if_pos ⟨rfl, b11⟩, if_neg b8, if_pos b11]
      · rw [if_neg (by omega), if_neg (by omega), if_neg b8, if_neg b11]
/-- the reference's start -/
def onC (r pc : Int) (y : Nat → Int) (a : Nat) : Int := if a = 5 then 2 else if a = 7 then 0 else if a = 8 then 0 else if a = 11 then (if r = 0 then haf pc else pc) else if a = 14 then y 14 + (1 - r) else y a
def fsC (v : Int) (y : Nat → Int) (a : Nat) : Int := if a = 5 then 3 else if a = 10 then v else if a = 12 then y 12 + 1 else y a
/-- the ford is shorter -/
def byFd (P pc L : Int) : Prop := 0 < L ∧ L < (P + pc - 1) / pc
theorem fordM {τ : IM} {p : Nat} {t pc : Int} (hp : p < 10) (ht : 0 ≤ t ∧ t ≤ 1000) (hpc : 1 ≤ pc ∧ pc ≤ 40) (hP : fX7_paceOf (mI p) (enc τ) = some (mI pc, enc τ)) (h23 : 1 ≤ τ 0 23 ∧ τ 0 23 ≤ 400) (hL : 0 ≤ τ 2 5 ∧ τ 2 5 ≤ 500) (h12 : 0 ≤ τ 12 p ∧ τ 12 p ≤ 1000) (hF : byFd (τ 0 23) pc (τ 2 5)) : ∃ τ1 : IM, fX7_start (mI p) (mI t) (enc τ) = some (mI 0, enc τ1) ∧ (∀ a, 5 ≤ a → a ≤ 17 → τ1 a p = fsC (t + τ 2 5) (fun a => τ a p) a) ∧ ∀ a b, ¬ ((5 ≤ a ∧ a ≤ 17) ∧ b = p) → τ1 a b = τ a b := by
  obtain ⟨f1, f2⟩ := hF
  have g1 : ¬ τ 2 5 ≤ 0 := by omega
  have g2 : ¬ (τ 0 23 + pc - 1) / pc ≤ τ 2 5 := by omega
  have g3 : 0 ≤ (τ 0 23 + pc - 1) / pc := Int.ediv_nonneg (by omega) (by omega)
  have g4 : (τ 0 23 + pc - 1) / pc ≤ τ 0 23 + pc - 1 := Int.ediv_le_self _ (by omega)
  have e1 : iw τ 5 p 3 2 5 = τ 2 5 := iw_ne (by omega)
  have e2 : iw (iw τ 5 p 3) 10 p (t + τ 2 5) 12 p = τ 12 p := by rw [iw_ne (by omega), iw_ne (by omega)]
  refine ⟨iw (iw (iw τ 5 p 3) 10 p (t + τ 2 5)) 12 p (τ 12 p + 1), ?_, fun a _ _ => ?_, fun a b hab => by rw [iw_ne (by omega), iw_ne (by omega), iw_ne (by omega)]⟩
  · unfold fX7_start
    rw [hP]
    simp (implicitDefEqProofs := false) (maxSteps := 1000000) (disch := omega) only [mI_div, g1, g2, e1, e2, ↓mm_lt_s, ↓cl_in, ↓cl_wi, ↓cl_has, ↓cl_isP, mL_le, lit_n, litL_n, mL_mI, mL_neg, mm_cl_s, mI_lt, mI_le, mI_eq, enc_at, enc_wr, enc_cp, mI_neg, mI_add, mI_sub, mI_mul, mI_ix, mm_ck_ok, mm_nz_ok, mm_bo_c, mm_bo_m0, mm_bo_m1, b01, Int.toNat_natCast, Int.reduceToNat, Int.reduceNeg, Int.reduceSub, Int.reduceAdd, Int.reduceMul, Int.reduceLT, Int.reduceLE, Int.reduceEq, ↓reduceIte, not_true, not_false_eq_true, not_true_eq_false, and_self, true_and, and_true, false_and, and_false, Decidable.not_not, stv1, stv2, stv3, stv4]
  · unfold fsC iw
    by_cases a5 : a = 5
    · rw [if_neg (by omega), if_neg (by omega), if_pos ⟨a5, rfl⟩, if_pos a5]
    · by_cases a10 : a = 10
      · rw [if_neg (by omega), if_pos ⟨a10, rfl⟩, if_neg a5, if_pos a10]
      · by_cases a12 : a = 12
        · rw [if_pos ⟨a12, rfl⟩, if_neg a5, if_neg a10, if_pos a12]
        · rw [if_neg (by omega), if_neg (by omega), if_neg (by omega), if_neg a5, if_neg a10, if_neg a12]
theorem onM {τ : IM} {p : Nat} {t pc r : Int} (hp : p < 10) (ht : 0 ≤ t ∧ t ≤ 1000) (hpc : 1 ≤ pc ∧ pc ≤ 40) (hP : fX7_paceOf (mI p) (enc τ) = some (mI pc, enc τ)) (h23 : 1 ≤ τ 0 23 ∧ τ 0 23 ≤ 400) (hL : 0 ≤ τ 2 5 ∧ τ 2 5 ≤ 500) (h14 : 0 ≤ τ 14 p ∧ τ 14 p ≤ 1000) (h24 : 0 ≤ τ 0 24 ∧ τ 0 24 ≤ 1000) (h27 : τ 0 27 = -1) (hF : ¬ byFd (τ 0 23) pc (τ 2 5)) (hr : r = if τ 0 24 = 0 then 0 else 1) : ∃ τ1 : IM, fX7_start (mI p) (mI t) (enc τ) = some (mI 0, enc τ1) ∧ (∀ a, 5 ≤ a → a ≤ 17 → τ1 a p = onC r pc (fun a => τ a p) a) ∧ τ1 0 24 = τ 0 24 - r ∧ ∀ a b, ¬ ((5 ≤ a ∧ a ≤ 17) ∧ b = p) → ¬ (a = 0 ∧ b = 24) → τ1 a b = τ a b := by
  have g3 : 0 ≤ (τ 0 23 + pc - 1) / pc := Int.ediv_nonneg (by omega) (by omega)
  have g4 : (τ 0 23 + pc - 1) / pc ≤ τ 0 23 + pc - 1 := Int.ediv_le_self _ (by omega)
  have key : ∀ v w : Int, (if r = 0 then haf pc else pc) = v → τ 14 p + (1 - r) = w → (∀ a, 5 ≤ a → a ≤ 17 → iw (iw (iw (iw (iw (iw τ 0 24 (τ 0 24 - r)) 11 p v) 14 p w) 5 p 2) 7 p 0) 8 p 0 a p = onC r pc (fun a => τ a p) a) ∧ iw (iw (iw (iw (iw (iw τ 0 24 (τ 0 24 - r)) 11 p v) 14 p w) 5 p 2) 7 p 0) 8 p 0 0 24 = τ 0 24 - r ∧ ∀ a b, ¬ ((5 ≤ a ∧ a ≤ 17) ∧ b = p) → ¬ (a = 0 ∧ b = 24) → iw (iw (iw (iw (iw (iw τ 0 24 (τ 0 24 - r)) 11 p v) 14 p w) 5 p 2) 7 p 0) 8 p 0 a b = τ a b := fun v w hv hw => by
    refine ⟨fun a h5 _ => ?_, by rw [iw_ne (by omega), iw_ne (by omega), iw_ne (by omega), iw_ne (by omega), iw_ne (by omega), iw_eq rfl rfl], fun a b hab hab2 => by rw [iw_ne (by omega), iw_ne (by omega), iw_ne (by omega), iw_ne (by omega), iw_ne (by omega), iw_ne (by omega)]⟩
    unfold onC iw
    dsimp only
    rw [hv, hw]
    by_cases a5 : a = 5
    · rw [if_neg (by omega), if_neg (by omega), if_pos ⟨a5, rfl⟩, if_pos a5]
    · by_cases a7 : a = 7
      · rw [if_neg (by omega), if_pos ⟨a7, rfl⟩, if_neg a5, if_pos a7]
      · by_cases a8 : a = 8
        · rw [if_pos ⟨a8, rfl⟩, if_neg a5, if_neg a7, if_pos a8]
        · by_cases a11 : a = 11
          · rw [if_neg (by omega), if_neg (by omega), if_neg (by omega), if_neg (by omega), if_pos ⟨a11, rfl⟩, if_neg a5, if_neg a7, if_neg a8, if_pos a11]
          · by_cases a14 : a = 14
            · rw [if_neg (by omega), if_neg (by omega), if_neg (by omega), if_pos ⟨a14, rfl⟩, if_neg a5, if_neg a7, if_neg a8, if_neg a11, if_pos a14]
            · rw [if_neg (by omega), if_neg (by omega), if_neg (by omega), if_neg (by omega), if_neg (by omega), if_neg (by omega), if_neg a5, if_neg a7, if_neg a8, if_neg a11, if_neg a14]
  have hN : ¬ (0 : Int) ≤ -1 := by omega
  have e2 : ∀ v : Int, iw (iw τ 0 24 (τ 0 24 - r)) 11 p v 14 p = τ 14 p := fun v => by rw [iw_ne (by omega), iw_ne (by omega)]
  have hh : (if pc / 2 < 1 then 1 else pc / 2) = haf pc := by unfold haf; split <;> split <;> omega
  have hI := haf_rng hpc.1 hpc.2
  by_cases cr : τ 0 24 = 0
  · rw [if_pos cr] at hr
    subst hr
    obtain ⟨k1, k2, k3⟩ := key _ _ (if_pos rfl) rfl
    refine ⟨_, ?_, k1, k2, k3⟩
    have g5 : τ 0 24 ≤ 0 := by omega
    unfold fX7_start
    rw [hP]
    by_cases c1 : τ 2 5 ≤ 0
    · simp (implicitDefEqProofs := false) (maxSteps := 1000000) (disch := omega) only [mI_div, c1, h27, hN, g5, most_s, hh, e2, ↓mm_lt_s, ↓cl_in, ↓cl_wi, ↓cl_has, ↓cl_isP, mL_le, lit_n, litL_n, mL_mI, mL_neg, mm_cl_s, mI_lt, mI_le, mI_eq, enc_at, enc_wr, enc_cp, mI_neg, mI_add, mI_sub, mI_mul, mI_ix, mm_ck_ok, mm_nz_ok, mm_bo_c, mm_bo_m0, mm_bo_m1, b01, Int.toNat_natCast, Int.reduceToNat, Int.reduceNeg, Int.reduceSub, Int.reduceAdd, Int.reduceMul, Int.reduceLT, Int.reduceLE, Int.reduceEq, ↓reduceIte, not_true, not_false_eq_true, not_true_eq_false, and_self, true_and, and_true, false_and, and_false, Decidable.not_not, stv1, stv2, stv3, stv4]
    · have c2 : (τ 0 23 + pc - 1) / pc ≤ τ 2 5 := by unfold byFd at hF; omega
      simp (implicitDefEqProofs := false) (maxSteps := 1000000) (disch := omega) only [mI_div, c1, c2, h27, hN, g5, most_s, hh, e2, ↓mm_lt_s, ↓cl_in, ↓cl_wi, ↓cl_has, ↓cl_isP, mL_le, lit_n, litL_n, mL_mI, mL_neg, mm_cl_s, mI_lt, mI_le, mI_eq, enc_at, enc_wr, enc_cp, mI_neg, mI_add, mI_sub, mI_mul, mI_ix, mm_ck_ok, mm_nz_ok, mm_bo_c, mm_bo_m0, mm_bo_m1, b01, Int.toNat_natCast, Int.reduceToNat, Int.reduceNeg, Int.reduceSub, Int.reduceAdd, Int.reduceMul, Int.reduceLT, Int.reduceLE, Int.reduceEq, ↓reduceIte, not_true, not_false_eq_true, not_true_eq_false, and_self, true_and, and_true, false_and, and_false, Decidable.not_not, stv1, stv2, stv3, stv4]
  · rw [if_neg cr] at hr
    subst hr
    obtain ⟨k1, k2, k3⟩ := key pc _ (if_neg (by omega)) rfl
    refine ⟨_, ?_, k1, k2, k3⟩
    have g5 : ¬ τ 0 24 ≤ 0 := by omega
    have z : τ 14 p + (1 - 1) = τ 14 p + 0 := by omega
    rw [z]
    unfold fX7_start
    rw [hP]
    by_cases c1 : τ 2 5 ≤ 0
    · simp (implicitDefEqProofs := false) (maxSteps := 1000000) (disch := omega) only [mI_div, c1, h27, hN, g5, e2, ↓mm_lt_s, ↓cl_in, ↓cl_wi, ↓cl_has, ↓cl_isP, mL_le, lit_n, litL_n, mL_mI, mL_neg, mm_cl_s, mI_lt, mI_le, mI_eq, enc_at, enc_wr, enc_cp, mI_neg, mI_add, mI_sub, mI_mul, mI_ix, mm_ck_ok, mm_nz_ok, mm_bo_c, mm_bo_m0, mm_bo_m1, b01, Int.toNat_natCast, Int.reduceToNat, Int.reduceNeg, Int.reduceSub, Int.reduceAdd, Int.reduceMul, Int.reduceLT, Int.reduceLE, Int.reduceEq, ↓reduceIte, not_true, not_false_eq_true, not_true_eq_false, and_self, true_and, and_true, false_and, and_false, Decidable.not_not, stv1, stv2, stv3, stv4]
    · have c2 : (τ 0 23 + pc - 1) / pc ≤ τ 2 5 := by unfold byFd at hF; omega
      simp (implicitDefEqProofs := false) (maxSteps := 1000000) (disch := omega) only [mI_div, c1, c2, h27, hN, g5, e2, ↓mm_lt_s, ↓cl_in, ↓cl_wi, ↓cl_has, ↓cl_isP, mL_le, lit_n, litL_n, mL_mI, mL_neg, mm_cl_s, mI_lt, mI_le, mI_eq, enc_at, enc_wr, enc_cp, mI_neg, mI_add, mI_sub, mI_mul, mI_ix, mm_ck_ok, mm_nz_ok, mm_bo_c, mm_bo_m0, mm_bo_m1, b01, Int.toNat_natCast, Int.reduceToNat, Int.reduceNeg, Int.reduceSub, Int.reduceAdd, Int.reduceMul, Int.reduceLT, Int.reduceLE, Int.reduceEq, ↓reduceIte, not_true, not_false_eq_true, not_true_eq_false, and_self, true_and, and_true, false_and, and_false, Decidable.not_not, stv1, stv2, stv3, stv4]
