def haf (v : Int) : Int := if 1 < v / 2 then v / 2 else 1
theorem haf_rng {v : Int} (h1 : 1 ≤ v) (h2 : v ≤ 40) : 1 ≤ haf v ∧ haf v ≤ 40 := by
  unfold haf
  split <;> omega
/-- one steps on the bridge: the class's row; r: has it a rope -/
def onR (r : Int) (x : Nat → Int) (b : Nat) : Int := if b = 8 then 1 else if b = 12 then 0 else if b = 13 then (if r = 0 then haf (x 2) else x 2) else if b = 17 then x 17 + (1 - r) else x b
theorem onX {σ : IM} {p : Nat} {r : Int} (hr : r = 0 ∨ r = 1) (h2 : 1 ≤ σ (34 + p) 2 ∧ σ (34 + p) 2 ≤ 40) (h17 : 0 ≤ σ (34 + p) 17 ∧ σ (34 + p) 17 ≤ 1000) : ∃ σ1 : IM, fX5_stepOn (34 + p) (mI r) (enc σ) = some (mI 0, enc σ1) ∧ (∀ b, σ1 (34 + p) b = onR r (σ (34 + p)) b) ∧ ∀ a b, a ≠ 34 + p → σ1 a b = σ a b := by
  have e1 : iw (iw σ (34 + p) 8 1) (34 + p) 12 0 (34 + p) 2 = σ (34 + p) 2 := by rw [iw_ne (by omega), iw_ne (by omega)]
  have e2 : ∀ v : Int, iw (iw (iw σ (34 + p) 8 1) (34 + p) 12 0) (34 + p) 13 v (34 + p) 17 = σ (34 + p) 17 := fun v => by rw [iw_ne (by omega), iw_ne (by omega), iw_ne (by omega)]
  have key : ∀ v w : Int, (if r = 0 then haf (σ (34 + p) 2) else σ (34 + p) 2) = v → σ (34 + p) 17 + (1 - r) = w → (∀ b, iw (iw (iw (iw σ (34 + p) 8 1) (34 + p) 12 0) (34 + p) 13 v) (34 + p) 17 w (34 + p) b = onR r (σ (34 + p)) b) ∧ ∀ a b, a ≠ 34 + p → iw (iw (iw (iw σ (34 + p) 8 1) (34 + p) 12 0) (34 + p) 13 v) (34 + p) 17 w a b = σ a b := fun v w hv hw => by
    refine ⟨fun b => ?_, fun a b hab => by rw [iw_ne (by omega), iw_ne (by omega), iw_ne (by omega), iw_ne (by omega)]⟩
    unfold onR iw
    rw [hv, hw]
    by_cases b8 : b = 8
    · rw [if_neg (by omega), if_neg (by omega), if_neg (by omega), if_pos ⟨rfl, b8⟩, if_pos b8]
    · by_cases b12 : b = 12
      · rw [if_neg (by omega), if_neg (by omega), if_pos ⟨rfl, b12⟩, if_neg b8, if_pos b12]
      · by_cases b13 : b = 13
        · rw [if_neg (by omega), if_pos ⟨rfl, b13⟩, if_neg b8, if_neg b12, if_pos b13]
        · by_cases b17 : b = 17
          · rw [if_pos ⟨rfl, b17⟩, if_neg b8, if_neg b12, if_neg b13, if_pos b17]
          · rw [if_neg (by omega), if_neg (by omega), if_neg (by omega), if_neg (by omega), if_neg b8, if_neg b12, if_neg b13, if_neg b17]
  unfold fX5_stepOn
  rcases hr with rfl | rfl
  · obtain ⟨k1, k2⟩ := key _ _ (if_pos rfl) rfl
    refine ⟨_, ?_, k1, k2⟩
    simp (implicitDefEqProofs := false) (maxSteps := 1000000) (disch := omega) only [e1, ↓mm_lt_s, ↓cl_in, ↓cl_wi, ↓cl_has, ↓cl_isP, mL_le, lit_n, litL_n, mL_mI, mL_neg, mm_cl_s, mI_lt, mI_le, mI_eq, enc_at, enc_wr, enc_cp, mI_neg, mI_add, mI_sub, mI_mul, mI_ix, mm_ck_ok, mm_nz_ok, mm_bo_c, mm_bo_m0, mm_bo_m1, b01, Int.toNat_natCast, Int.reduceToNat, Int.reduceNeg, Int.reduceSub, Int.reduceAdd, Int.reduceMul, Int.reduceLT, Int.reduceLE, Int.reduceEq, ↓reduceIte, not_true, not_false_eq_true, not_true_eq_false, and_self, true_and, and_true, false_and, and_false, Decidable.not_not, stv1, stv2, stv3, stv4]
    rw [half_s _ _ (by omega) (by omega)]
    unfold haf
    simp (implicitDefEqProofs := false) (maxSteps := 1000000) (disch := omega) only [e2, ↓mm_lt_s, ↓cl_in, ↓cl_wi, ↓cl_has, ↓cl_isP, mL_le, lit_n, litL_n, mL_mI, mL_neg, mm_cl_s, mI_lt, mI_le, mI_eq, enc_at, enc_wr, enc_cp, mI_neg, mI_add, mI_sub, mI_mul, mI_ix, mm_ck_ok, mm_nz_ok, mm_bo_c, mm_bo_m0, mm_bo_m1, b01, Int.toNat_natCast, Int.reduceToNat, Int.reduceNeg, Int.reduceSub, Int.reduceAdd, Int.reduceMul, Int.reduceLT, Int.reduceLE, Int.reduceEq, ↓reduceIte, not_true, not_false_eq_true, not_true_eq_false, and_self, true_and, and_true, false_and, and_false, Decidable.not_not, stv1, stv2, stv3, stv4]
  · obtain ⟨k1, k2⟩ := key (σ (34 + p) 2) _ (if_neg (by omega)) rfl
    refine ⟨_, ?_, k1, k2⟩
    have z : σ (34 + p) 17 + (1 - 1) = σ (34 + p) 17 + 0 := by omega
    rw [z]
    simp (implicitDefEqProofs := false) (maxSteps := 1000000) (disch := omega) only [e1, e2, ↓mm_lt_s, ↓cl_in, ↓cl_wi, ↓cl_has, ↓cl_isP, mL_le, lit_n, litL_n, mL_mI, mL_neg, mm_cl_s, mI_lt, mI_le, mI_eq, enc_at, enc_wr, enc_cp, mI_neg, mI_add, mI_sub, mI_mul, mI_ix, mm_ck_ok, mm_nz_ok, mm_bo_c, mm_bo_m0, mm_bo_m1, b01, Int.toNat_natCast, Int.reduceToNat, Int.reduceNeg, Int.reduceSub, Int.reduceAdd, Int.reduceMul, Int.reduceLT, Int.reduceLE, Int.reduceEq, ↓reduceIte, not_true, not_false_eq_true, not_true_eq_false, and_self, true_and, and_true, false_and, and_false, Decidable.not_not, stv1, stv2, stv3, stv4]
theorem bit_all : ∀ s, s < 1024 → ∀ i, i < 10 → ((mI ((s : Nat) : Int) >>> (mI ((i : Nat) : Int) &&& mI 31)) &&& mI 1) = mI ((s / 2 ^ i % 2 : Nat) : Int) := by decide +kernel
def bitZ (s : Int) (i : Nat) : Int := ((s.toNat / 2 ^ i % 2 : Nat) : Int)
theorem bitZ_01 (s : Int) (i : Nat) : bitZ s i = 0 ∨ bitZ s i = 1 := by
  unfold bitZ
  omega
theorem bit_i {s : Int} {i : Nat} (h1 : 0 ≤ s) (h2 : s < 1024) (hi : i < 10) : ((mI s >>> (mI (i : Int) &&& mI 31)) &&& mI 1) = mI (bitZ s i) := by
  have e : s = ((s.toNat : Nat) : Int) := by omega
  have h := bit_all s.toNat (by omega) i hi
  rw [← e] at h
  exact h
/-- whether one has a rope, what that takes of the ropes -/
def ropv (r n : Int) (i : Nat) : Int := if r = -1 then (if n = 0 then 0 else 1) else bitZ r i
def ropd (r n : Int) (_ : Nat) : Int := if r = -1 then (if n = 0 then 0 else 1) else 0
theorem ropv_01 (r n : Int) (i : Nat) : ropv r n i = 0 ∨ ropv r n i = 1 := by
  unfold ropv
  split
  · split <;> omega
  · exact bitZ_01 r i
theorem ropd_rng {r n : Int} (i : Nat) (h : 0 ≤ n) : 0 ≤ n - ropd r n i ∧ n - ropd r n i ≤ n := by
  unfold ropd
  split
  · split <;> omega
  · omega
theorem ropeX {σ : IM} {p : Nat} (hp : p < 10) (h2 : -1 ≤ σ 30 2 ∧ σ 30 2 < 1024) (h4 : 0 ≤ σ 30 4 ∧ σ 30 4 ≤ 1000) : fX0_takeRope (mI p) (enc σ) = some (mI (ropv (σ 30 2) (σ 30 4) p), enc (iw σ 30 4 (σ 30 4 - ropd (σ 30 2) (σ 30 4) p))) := by
  have e0 : iw σ 30 4 (σ 30 4 - 0) = σ := iw_self (by omega)
  by_cases c : σ 30 2 = -1
  · by_cases d : σ 30 4 = 0
    · have r1 : ropv (σ 30 2) (σ 30 4) p = 0 := by unfold ropv; rw [if_pos c, if_pos d]
      have r2 : ropd (σ 30 2) (σ 30 4) p = 0 := by unfold ropd; rw [if_pos c, if_pos d]
      rw [r1, r2, e0]
      unfold fX0_takeRope
      simp (implicitDefEqProofs := false) (maxSteps := 1000000) (disch := omega) only [c, d, ↓mm_lt_s, ↓cl_in, ↓cl_wi, ↓cl_has, ↓cl_isP, mL_le, lit_n, litL_n, mL_mI, mL_neg, mm_cl_s, mI_lt, mI_le, mI_eq, enc_at, enc_wr, enc_cp, mI_neg, mI_add, mI_sub, mI_mul, mI_ix, mm_ck_ok, mm_nz_ok, mm_bo_c, mm_bo_m0, mm_bo_m1, b01, Int.toNat_natCast, Int.reduceToNat, Int.reduceNeg, Int.reduceSub, Int.reduceAdd, Int.reduceMul, Int.reduceLT, Int.reduceLE, Int.reduceEq, ↓reduceIte, not_true, not_false_eq_true, not_true_eq_false, and_self, true_and, and_true, false_and, and_false, Decidable.not_not, stv1, stv2, stv3, stv4]
    · have r1 : ropv (σ 30 2) (σ 30 4) p = 1 := by unfold ropv; rw [if_pos c, if_neg d]
      have r2 : ropd (σ 30 2) (σ 30 4) p = 1 := by unfold ropd; rw [if_pos c, if_neg d]
      rw [r1, r2]
      unfold fX0_takeRope
      simp (implicitDefEqProofs := false) (maxSteps := 1000000) (disch := omega) only [c, d, ↓mm_lt_s, ↓cl_in, ↓cl_wi, ↓cl_has, ↓cl_isP, mL_le, lit_n, litL_n, mL_mI, mL_neg, mm_cl_s, mI_lt, mI_le, mI_eq, enc_at, enc_wr, enc_cp, mI_neg, mI_add, mI_sub, mI_mul, mI_ix, mm_ck_ok, mm_nz_ok, mm_bo_c, mm_bo_m0, mm_bo_m1, b01, Int.toNat_natCast, Int.reduceToNat, Int.reduceNeg, Int.reduceSub, Int.reduceAdd, Int.reduceMul, Int.reduceLT, Int.reduceLE, Int.reduceEq, ↓reduceIte, not_true, not_false_eq_true, not_true_eq_false, and_self, true_and, and_true, false_and, and_false, Decidable.not_not, stv1, stv2, stv3, stv4]
  · have r1 : ropv (σ 30 2) (σ 30 4) p = bitZ (σ 30 2) p := by unfold ropv; rw [if_neg c]
    have r2 : ropd (σ 30 2) (σ 30 4) p = 0 := by unfold ropd; rw [if_neg c]
    have B := bit_i (s := σ 30 2) (i := p) (by omega) (by omega) hp
    rw [r1, r2, e0]
    unfold fX0_takeRope
    rcases bitZ_01 (σ 30 2) p with b | b
    · rw [b] at B ⊢
      simp (implicitDefEqProofs := false) (maxSteps := 1000000) (disch := omega) only [c, B, ↓mm_lt_s, ↓cl_in, ↓cl_wi, ↓cl_has, ↓cl_isP, mL_le, lit_n, litL_n, mL_mI, mL_neg, mm_cl_s, mI_lt, mI_le, mI_eq, enc_at, enc_wr, enc_cp, mI_neg, mI_add, mI_sub, mI_mul, mI_ix, mm_ck_ok, mm_nz_ok, mm_bo_c, mm_bo_m0, mm_bo_m1, b01, Int.toNat_natCast, Int.reduceToNat, Int.reduceNeg, Int.reduceSub, Int.reduceAdd, Int.reduceMul, Int.reduceLT, Int.reduceLE, Int.reduceEq, ↓reduceIte, not_true, not_false_eq_true, not_true_eq_false, and_self, true_and, and_true, false_and, and_false, Decidable.not_not, stv1, stv2, stv3, stv4]
    · rw [b] at B ⊢
      simp (implicitDefEqProofs := false) (maxSteps := 1000000) (disch := omega) only [c, B, ↓mm_lt_s, ↓cl_in, ↓cl_wi, ↓cl_has, ↓cl_isP, mL_le, lit_n, litL_n, mL_mI, mL_neg, mm_cl_s, mI_lt, mI_le, mI_eq, enc_at, enc_wr, enc_cp, mI_neg, mI_add, mI_sub, mI_mul, mI_ix, mm_ck_ok, mm_nz_ok, mm_bo_c, mm_bo_m0, mm_bo_m1, b01, Int.toNat_natCast, Int.reduceToNat, Int.reduceNeg, Int.reduceSub, Int.reduceAdd, Int.reduceMul, Int.reduceLT, Int.reduceLE, Int.reduceEq, ↓reduceIte, not_true, not_false_eq_true, not_true_eq_false, and_self, true_and, and_true, false_and, and_false, Decidable.not_not, stv1, stv2, stv3, stv4]
def fsR (v : Int) (x : Nat → Int) (b : Nat) : Int := if b = 8 then 3 else if b = 11 then v else x b
theorem fsX {σ : IM} {p : Nat} {v : Int} : ∃ σ1 : IM, fX5_startByFord (34 + p) (mI v) (enc σ) = some (mI 0, enc σ1) ∧ (∀ b, σ1 (34 + p) b = fsR v (σ (34 + p)) b) ∧ ∀ a b, a ≠ 34 + p → σ1 a b = σ a b := by
  refine ⟨iw (iw σ (34 + p) 8 3) (34 + p) 11 v, ?_, fun b => ?_, fun a b hab => by rw [iw_ne (by omega), iw_ne (by omega)]⟩
  · unfold fX5_startByFord
    simp (implicitDefEqProofs := false) (maxSteps := 1000000) (disch := omega) only [↓mm_lt_s, ↓cl_in, ↓cl_wi, ↓cl_has, ↓cl_isP, mL_le, lit_n, litL_n, mL_mI, mL_neg, mm_cl_s, mI_lt, mI_le, mI_eq, enc_at, enc_wr, enc_cp, mI_neg, mI_add, mI_sub, mI_mul, mI_ix, mm_ck_ok, mm_nz_ok, mm_bo_c, mm_bo_m0, mm_bo_m1, b01, Int.toNat_natCast, Int.reduceToNat, Int.reduceNeg, Int.reduceSub, Int.reduceAdd, Int.reduceMul, Int.reduceLT, Int.reduceLE, Int.reduceEq, ↓reduceIte, not_true, not_false_eq_true, not_true_eq_false, and_self, true_and, and_true, false_and, and_false, Decidable.not_not, stv1, stv2, stv3, stv4]
  · unfold fsR iw
    by_cases b8 : b = 8
    · rw [if_neg (by omega), if_pos ⟨rfl, b8⟩, if_pos b8]
    · by_cases b11 : b = 11
      · rw [if_pos ⟨rfl, b11⟩, if_neg b8, if_pos b11]
      · rw [if_neg (by omega), if_neg (by omega), if_neg b8, if_neg b11]
/-- the reference's start -/
def onC (r pc : Int) (y : Nat → Int) (a : Nat) : Int := if a = 5 then 2 else if a = 7 then 0 else if a = 8 then 0 else if a = 11 then (if r = 0 then haf pc else pc) else if a = 14 then y 14 + (1 - r) else y a
def fsC (v : Int) (y : Nat → Int) (a : Nat) : Int := if a = 5 then 3 else if a = 10 then v else if a = 12 then y 12 + 1 else y a
/-- the ford is shorter -/
abbrev byFd (P pc L : Int) : Prop := 0 < L ∧ L < (P + pc - 1) / pc
theorem fordM {τ : IM} {p : Nat} {t pc : Int} (hp : p < 10) (ht : 0 ≤ t ∧ t ≤ 1000) (hpc : 1 ≤ pc ∧ pc ≤ 40) (hP : fX7_paceOf (mI p) (enc τ) = some (mI pc, enc τ)) (h23 : 1 ≤ τ 0 23 ∧ τ 0 23 ≤ 400) (hL : 0 ≤ τ 2 5 ∧ τ 2 5 ≤ 500) (h12 : 0 ≤ τ 12 p ∧ τ 12 p ≤ 1000) (hF : byFd (τ 0 23) pc (τ 2 5)) : ∃ τ1 : IM, fX7_start (mI p) (mI t) (enc τ) = some (mI 0, enc τ1) ∧ (∀ a, 5 ≤ a → a ≤ 17 → τ1 a p = fsC (t + τ 2 5) (fun a => τ a p) a) ∧ ∀ a b, ¬ ((5 ≤ a ∧ a ≤ 17) ∧ b = p) → τ1 a b = τ a b := by
  obtain ⟨f1, f2⟩ := hF
  have g1 : ¬ τ 2 5 ≤ 0 := by omega
  have g2 : ¬ (τ 0 23 + pc - 1) / pc ≤ τ 2 5 := by omega
  have g3 : 0 ≤ (τ 0 23 + pc - 1) / pc := Int.ediv_nonneg (by omega) (by omega)
  have g4 : (τ 0 23 + pc - 1) / pc ≤ τ 0 23 + pc - 1 := Int.ediv_le_self _ (by omega)
  have e1 : iw τ 5 p 3 2 5 = τ 2 5 := iw_ne (by omega)
  have e2 : iw (iw τ 5 p 3) 10 p (t + τ 2 5) 12 p = τ 12 p := by rw [iw_ne (by omega), iw_ne (by omega)]
  refine ⟨iw (iw (iw τ 5 p 3) 10 p (t + τ 2 5)) 12 p (τ 12 p + 1), ?_, fun a _ _ => ?_, fun a b hab => by rw [iw_ne (by omega), iw_ne (by omega), iw_ne (by omega)]⟩
  · unfold fX7_start
    rw [hP]
    simp (implicitDefEqProofs := false) (maxSteps := 1000000) (disch := omega) only [mI_div, g1, g2, e1, e2, ↓mm_lt_s, ↓cl_in, ↓cl_wi, ↓cl_has, ↓cl_isP, mL_le, lit_n, litL_n, mL_mI, mL_neg, mm_cl_s, mI_lt, mI_le, mI_eq, enc_at, enc_wr, enc_cp, mI_neg, mI_add, mI_sub, mI_mul, mI_ix, mm_ck_ok, mm_nz_ok, mm_bo_c, mm_bo_m0, mm_bo_m1, b01, Int.toNat_natCast, Int.reduceToNat, Int.reduceNeg, Int.reduceSub, Int.reduceAdd, Int.reduceMul, Int.reduceLT, Int.reduceLE, Int.reduceEq, ↓reduceIte, not_true, not_false_eq_true, not_true_eq_false, and_self, true_and, and_true, false_and, and_false, Decidable.not_not, stv1, stv2, stv3, stv4]
  · unfold fsC iw
    by_cases a5 : a = 5
    · rw [if_neg (by omega), if_neg (by omega), if_pos ⟨a5, rfl⟩, if_pos a5]
    · by_cases a10 : a = 10
      · rw [if_neg (by omega), if_pos ⟨a10, rfl⟩, if_neg a5, if_pos a10]
      · by_cases a12 : a = 12
        · rw [if_pos ⟨a12, rfl⟩, if_neg a5, if_neg a10, if_pos a12]
        · rw [if_neg (by omega), if_neg (by omega), if_neg (by omega), if_neg a5, if_neg a10, if_neg a12]
theorem has_M {s : Int} {i : Nat} (ν : Mm) (h1 : 0 ≤ s) (h2 : s < 1024) (hi : i < 10) : fX7_has (mI s) (mI i) ν = some (mI (bitZ s i), ν) := by
  have B := bit_i h1 h2 hi
  unfold fX7_has
  rcases bitZ_01 s i with b | b
  · rw [b] at B ⊢
    simp (implicitDefEqProofs := false) (maxSteps := 1000000) (disch := omega) only [B, ↓mm_lt_s, ↓cl_in, ↓cl_wi, ↓cl_has, ↓cl_isP, mL_le, lit_n, litL_n, mL_mI, mL_neg, mm_cl_s, mI_lt, mI_le, mI_eq, enc_at, enc_wr, enc_cp, mI_neg, mI_add, mI_sub, mI_mul, mI_ix, mm_ck_ok, mm_nz_ok, mm_bo_c, mm_bo_m0, mm_bo_m1, b01, Int.toNat_natCast, Int.reduceToNat, Int.reduceNeg, Int.reduceSub, Int.reduceAdd, Int.reduceMul, Int.reduceLT, Int.reduceLE, Int.reduceEq, ↓reduceIte, not_true, not_false_eq_true, not_true_eq_false, and_self, true_and, and_true, false_and, and_false, Decidable.not_not, stv1, stv2, stv3, stv4]
  · rw [b] at B ⊢
    simp (implicitDefEqProofs := false) (maxSteps := 1000000) (disch := omega) only [B, ↓mm_lt_s, ↓cl_in, ↓cl_wi, ↓cl_has, ↓cl_isP, mL_le, lit_n, litL_n, mL_mI, mL_neg, mm_cl_s, mI_lt, mI_le, mI_eq, enc_at, enc_wr, enc_cp, mI_neg, mI_add, mI_sub, mI_mul, mI_ix, mm_ck_ok, mm_nz_ok, mm_bo_c, mm_bo_m0, mm_bo_m1, b01, Int.toNat_natCast, Int.reduceToNat, Int.reduceNeg, Int.reduceSub, Int.reduceAdd, Int.reduceMul, Int.reduceLT, Int.reduceLE, Int.reduceEq, ↓reduceIte, not_true, not_false_eq_true, not_true_eq_false, and_self, true_and, and_true, false_and, and_false, Decidable.not_not, stv1, stv2, stv3, stv4]
theorem onM {τ : IM} {p : Nat} {t pc r d : Int} (hp : p < 10) (ht : 0 ≤ t ∧ t ≤ 1000) (hpc : 1 ≤ pc ∧ pc ≤ 40) (hP : fX7_paceOf (mI p) (enc τ) = some (mI pc, enc τ)) (h23 : 1 ≤ τ 0 23 ∧ τ 0 23 ≤ 400) (hL : 0 ≤ τ 2 5 ∧ τ 2 5 ≤ 500) (h14 : 0 ≤ τ 14 p ∧ τ 14 p ≤ 1000) (h24 : 0 ≤ τ 0 24 ∧ τ 0 24 ≤ 1000) (h27 : -1 ≤ τ 0 27 ∧ τ 0 27 < 1024) (hF : ¬ byFd (τ 0 23) pc (τ 2 5)) (hr : ropv (τ 0 27) (τ 0 24) p = r) (hd : ropd (τ 0 27) (τ 0 24) p = d) : ∃ τ1 : IM, fX7_start (mI p) (mI t) (enc τ) = some (mI 0, enc τ1) ∧ (∀ a, 5 ≤ a → a ≤ 17 → τ1 a p = onC r pc (fun a => τ a p) a) ∧ τ1 0 24 = τ 0 24 - d ∧ ∀ a b, ¬ ((5 ≤ a ∧ a ≤ 17) ∧ b = p) → ¬ (a = 0 ∧ b = 24) → τ1 a b = τ a b := by
  have g3 : 0 ≤ (τ 0 23 + pc - 1) / pc := Int.ediv_nonneg (by omega) (by omega)
  have g4 : (τ 0 23 + pc - 1) / pc ≤ τ 0 23 + pc - 1 := Int.ediv_le_self _ (by omega)
  have key : ∀ v w : Int, (if r = 0 then haf pc else pc) = v → τ 14 p + (1 - r) = w → (∀ a, 5 ≤ a → a ≤ 17 → iw (iw (iw (iw (iw (iw τ 0 24 (τ 0 24 - d)) 11 p v) 14 p w) 5 p 2) 7 p 0) 8 p 0 a p = onC r pc (fun a => τ a p) a) ∧ iw (iw (iw (iw (iw (iw τ 0 24 (τ 0 24 - d)) 11 p v) 14 p w) 5 p 2) 7 p 0) 8 p 0 0 24 = τ 0 24 - d ∧ ∀ a b, ¬ ((5 ≤ a ∧ a ≤ 17) ∧ b = p) → ¬ (a = 0 ∧ b = 24) → iw (iw (iw (iw (iw (iw τ 0 24 (τ 0 24 - d)) 11 p v) 14 p w) 5 p 2) 7 p 0) 8 p 0 a b = τ a b := fun v w hv hw => by
    refine ⟨fun a h5 _ => ?_, by rw [iw_ne (by omega), iw_ne (by omega), iw_ne (by omega), iw_ne (by omega), iw_ne (by omega), iw_eq rfl rfl], fun a b hab hab2 => by rw [iw_ne (by omega), iw_ne (by omega), iw_ne (by omega), iw_ne (by omega), iw_ne (by omega), iw_ne (by omega)]⟩
    unfold onC iw
    dsimp only
    rw [hv, hw]
    by_cases a5 : a = 5
    · rw [if_neg (by omega), if_neg (by omega), if_pos ⟨a5, rfl⟩, if_pos a5]
    · by_cases a7 : a = 7
      · rw [if_neg (by omega), if_pos ⟨a7, rfl⟩, if_neg a5, if_pos a7]
      · by_cases a8 : a = 8
        · rw [if_pos ⟨a8, rfl⟩, if_neg a5, if_neg a7, if_pos a8]
        · by_cases a11 : a = 11
          · rw [if_neg (by omega), if_neg (by omega), if_neg (by omega), if_neg (by omega), if_pos ⟨a11, rfl⟩, if_neg a5, if_neg a7, if_neg a8, if_pos a11]
          · by_cases a14 : a = 14
            · rw [if_neg (by omega), if_neg (by omega), if_neg (by omega), if_pos ⟨a14, rfl⟩, if_neg a5, if_neg a7, if_neg a8, if_neg a11, if_pos a14]
            · rw [if_neg (by omega), if_neg (by omega), if_neg (by omega), if_neg (by omega), if_neg (by omega), if_neg (by omega), if_neg a5, if_neg a7, if_neg a8, if_neg a11, if_neg a14]
  have e2 : ∀ v : Int, iw (iw τ 0 24 (τ 0 24 - d)) 11 p v 14 p = τ 14 p := fun v => by rw [iw_ne (by omega), iw_ne (by omega)]
  have hh : (if pc / 2 < 1 then 1 else pc / 2) = haf pc := by unfold haf; split <;> split <;> omega
  have hI := haf_rng hpc.1 hpc.2
  have hf : τ 2 5 ≤ 0 ∨ (¬ τ 2 5 ≤ 0 ∧ (τ 0 23 + pc - 1) / pc ≤ τ 2 5) := by
    unfold byFd at hF
    omega
  by_cases c : τ 0 27 = -1
  · have n1 : ¬ 0 ≤ τ 0 27 := by omega
    by_cases cr : τ 0 24 = 0
    · have r1 : r = 0 := by rw [← hr]; unfold ropv; rw [if_pos c, if_pos cr]
      have d1 : d = 0 := by rw [← hd]; unfold ropd; rw [if_pos c, if_pos cr]
      subst r1
      subst d1
      obtain ⟨k1, k2, k3⟩ := key _ _ (if_pos rfl) rfl
      refine ⟨_, ?_, k1, k2, k3⟩
      have g5 : τ 0 24 ≤ 0 := by omega
      unfold fX7_start
      rw [hP]
      rcases hf with c1 | ⟨c1, c2⟩
      · simp (implicitDefEqProofs := false) (maxSteps := 1000000) (disch := omega) only [mI_div, c1, n1, g5, most_s, hh, e2, ↓mm_lt_s, ↓cl_in, ↓cl_wi, ↓cl_has, ↓cl_isP, mL_le, lit_n, litL_n, mL_mI, mL_neg, mm_cl_s, mI_lt, mI_le, mI_eq, enc_at, enc_wr, enc_cp, mI_neg, mI_add, mI_sub, mI_mul, mI_ix, mm_ck_ok, mm_nz_ok, mm_bo_c, mm_bo_m0, mm_bo_m1, b01, Int.toNat_natCast, Int.reduceToNat, Int.reduceNeg, Int.reduceSub, Int.reduceAdd, Int.reduceMul, Int.reduceLT, Int.reduceLE, Int.reduceEq, ↓reduceIte, not_true, not_false_eq_true, not_true_eq_false, and_self, true_and, and_true, false_and, and_false, Decidable.not_not, stv1, stv2, stv3, stv4]
      · simp (implicitDefEqProofs := false) (maxSteps := 1000000) (disch := omega) only [mI_div, c1, c2, n1, g5, most_s, hh, e2, ↓mm_lt_s, ↓cl_in, ↓cl_wi, ↓cl_has, ↓cl_isP, mL_le, lit_n, litL_n, mL_mI, mL_neg, mm_cl_s, mI_lt, mI_le, mI_eq, enc_at, enc_wr, enc_cp, mI_neg, mI_add, mI_sub, mI_mul, mI_ix, mm_ck_ok, mm_nz_ok, mm_bo_c, mm_bo_m0, mm_bo_m1, b01, Int.toNat_natCast, Int.reduceToNat, Int.reduceNeg, Int.reduceSub, Int.reduceAdd, Int.reduceMul, Int.reduceLT, Int.reduceLE, Int.reduceEq, ↓reduceIte, not_true, not_false_eq_true, not_true_eq_false, and_self, true_and, and_true, false_and, and_false, Decidable.not_not, stv1, stv2, stv3, stv4]
    · have r1 : r = 1 := by rw [← hr]; unfold ropv; rw [if_pos c, if_neg cr]
      have d1 : d = 1 := by rw [← hd]; unfold ropd; rw [if_pos c, if_neg cr]
      subst r1
      subst d1
      obtain ⟨k1, k2, k3⟩ := key pc _ (if_neg (by omega)) rfl
      refine ⟨_, ?_, k1, k2, k3⟩
      have g5 : ¬ τ 0 24 ≤ 0 := by omega
      have z : τ 14 p + (1 - 1) = τ 14 p + 0 := by omega
      rw [z]
      unfold fX7_start
      rw [hP]
      rcases hf with c1 | ⟨c1, c2⟩
      · simp (implicitDefEqProofs := false) (maxSteps := 1000000) (disch := omega) only [mI_div, c1, n1, g5, e2, ↓mm_lt_s, ↓cl_in, ↓cl_wi, ↓cl_has, ↓cl_isP, mL_le, lit_n, litL_n, mL_mI, mL_neg, mm_cl_s, mI_lt, mI_le, mI_eq, enc_at, enc_wr, enc_cp, mI_neg, mI_add, mI_sub, mI_mul, mI_ix, mm_ck_ok, mm_nz_ok, mm_bo_c, mm_bo_m0, mm_bo_m1, b01, Int.toNat_natCast, Int.reduceToNat, Int.reduceNeg, Int.reduceSub, Int.reduceAdd, Int.reduceMul, Int.reduceLT, Int.reduceLE, Int.reduceEq, ↓reduceIte, not_true, not_false_eq_true, not_true_eq_false, and_self, true_and, and_true, false_and, and_false, Decidable.not_not, stv1, stv2, stv3, stv4]
      · simp (implicitDefEqProofs := false) (maxSteps := 1000000) (disch := omega) only [mI_div, c1, c2, n1, g5, e2, ↓mm_lt_s, ↓cl_in, ↓cl_wi, ↓cl_has, ↓cl_isP, mL_le, lit_n, litL_n, mL_mI, mL_neg, mm_cl_s, mI_lt, mI_le, mI_eq, enc_at, enc_wr, enc_cp, mI_neg, mI_add, mI_sub, mI_mul, mI_ix, mm_ck_ok, mm_nz_ok, mm_bo_c, mm_bo_m0, mm_bo_m1, b01, Int.toNat_natCast, Int.reduceToNat, Int.reduceNeg, Int.reduceSub, Int.reduceAdd, Int.reduceMul, Int.reduceLT, Int.reduceLE, Int.reduceEq, ↓reduceIte, not_true, not_false_eq_true, not_true_eq_false, and_self, true_and, and_true, false_and, and_false, Decidable.not_not, stv1, stv2, stv3, stv4]
  · have n1 : 0 ≤ τ 0 27 := by omega
    have r1 : r = bitZ (τ 0 27) p := by rw [← hr]; unfold ropv; rw [if_neg c]
    have d1 : d = 0 := by rw [← hd]; unfold ropd; rw [if_neg c]
    have hM := has_M (s := τ 0 27) (i := p) (enc τ) n1 h27.2 hp
    subst d1
    rcases bitZ_01 (τ 0 27) p with b | b
    · rw [b] at r1 hM
      subst r1
      obtain ⟨k1, k2, k3⟩ := key _ _ (if_pos rfl) rfl
      refine ⟨_, ?_, k1, k2, k3⟩
      unfold fX7_start
      rw [hP]
      rcases hf with c1 | ⟨c1, c2⟩
      · simp (implicitDefEqProofs := false) (maxSteps := 1000000) (disch := omega) only [mI_div, c1, n1, hM, most_s, hh, e2, ↓mm_lt_s, ↓cl_in, ↓cl_wi, ↓cl_has, ↓cl_isP, mL_le, lit_n, litL_n, mL_mI, mL_neg, mm_cl_s, mI_lt, mI_le, mI_eq, enc_at, enc_wr, enc_cp, mI_neg, mI_add, mI_sub, mI_mul, mI_ix, mm_ck_ok, mm_nz_ok, mm_bo_c, mm_bo_m0, mm_bo_m1, b01, Int.toNat_natCast, Int.reduceToNat, Int.reduceNeg, Int.reduceSub, Int.reduceAdd, Int.reduceMul, Int.reduceLT, Int.reduceLE, Int.reduceEq, ↓reduceIte, not_true, not_false_eq_true, not_true_eq_false, and_self, true_and, and_true, false_and, and_false, Decidable.not_not, stv1, stv2, stv3, stv4]
      · simp (implicitDefEqProofs := false) (maxSteps := 1000000) (disch := omega) only [mI_div, c1, c2, n1, hM, most_s, hh, e2, ↓mm_lt_s, ↓cl_in, ↓cl_wi, ↓cl_has, ↓cl_isP, mL_le, lit_n, litL_n, mL_mI, mL_neg, mm_cl_s, mI_lt, mI_le, mI_eq, enc_at, enc_wr, enc_cp, mI_neg, mI_add, mI_sub, mI_mul, mI_ix, mm_ck_ok, mm_nz_ok, mm_bo_c, mm_bo_m0, mm_bo_m1, b01, Int.toNat_natCast, Int.reduceToNat, Int.reduceNeg, Int.reduceSub, Int.reduceAdd, Int.reduceMul, Int.reduceLT, Int.reduceLE, Int.reduceEq, ↓reduceIte, not_true, not_false_eq_true, not_true_eq_false, and_self, true_and, and_true, false_and, and_false, Decidable.not_not, stv1, stv2, stv3, stv4]
    · rw [b] at r1 hM
      subst r1
      obtain ⟨k1, k2, k3⟩ := key pc _ (if_neg (by omega)) rfl
      refine ⟨_, ?_, k1, k2, k3⟩
      have z : τ 14 p + (1 - 1) = τ 14 p + 0 := by omega
      rw [z]
      unfold fX7_start
      rw [hP]
      rcases hf with c1 | ⟨c1, c2⟩
      · simp (implicitDefEqProofs := false) (maxSteps := 1000000) (disch := omega) only [mI_div, c1, n1, hM, e2, ↓mm_lt_s, ↓cl_in, ↓cl_wi, ↓cl_has, ↓cl_isP, mL_le, lit_n, litL_n, mL_mI, mL_neg, mm_cl_s, mI_lt, mI_le, mI_eq, enc_at, enc_wr, enc_cp, mI_neg, mI_add, mI_sub, mI_mul, mI_ix, mm_ck_ok, mm_nz_ok, mm_bo_c, mm_bo_m0, mm_bo_m1, b01, Int.toNat_natCast, Int.reduceToNat, Int.reduceNeg, Int.reduceSub, Int.reduceAdd, Int.reduceMul, Int.reduceLT, Int.reduceLE, Int.reduceEq, ↓reduceIte, not_true, not_false_eq_true, not_true_eq_false, and_self, true_and, and_true, false_and, and_false, Decidable.not_not, stv1, stv2, stv3, stv4]
      · simp (implicitDefEqProofs := false) (maxSteps := 1000000) (disch := omega) only [mI_div, c1, c2, n1, hM, e2, ↓mm_lt_s, ↓cl_in, ↓cl_wi, ↓cl_has, ↓cl_isP, mL_le, lit_n, litL_n, mL_mI, mL_neg, mm_cl_s, mI_lt, mI_le, mI_eq, enc_at, enc_wr, enc_cp, mI_neg, mI_add, mI_sub, mI_mul, mI_ix, mm_ck_ok, mm_nz_ok, mm_bo_c, mm_bo_m0, mm_bo_m1, b01, Int.toNat_natCast, Int.reduceToNat, Int.reduceNeg, Int.reduceSub, Int.reduceAdd, Int.reduceMul, Int.reduceLT, Int.reduceLE, Int.reduceEq, ↓reduceIte, not_true, not_false_eq_true, not_true_eq_false, and_self, true_and, and_true, false_and, and_false, Decidable.not_not, stv1, stv2, stv3, stv4]
