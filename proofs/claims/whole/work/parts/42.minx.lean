/-! days: the class's minute -/
def nF (m : Nat) (t : Int) (b : Nat) (σ : IM) : Int := (spF m b σ m 0 0 : Int) + cntV (popc (mskF m b σ m 0 0) : Int) t (σ 33 b) (σ 32 1) (σ 32 2)
def lcF (m : Nat) (t : Int) (b : Nat) (σ : IM) : Int := if ¬ ((popc (mskF m b σ m 0 0) : Int) = 0 ∨ σ 32 1 = 1) ∧ ¬ (σ 32 1 = 2 ∧ t - σ 32 2 ≤ σ 33 b) then t else σ 33 b
def fromF (t : Int) (m b : Nat) (σ : IM) : IM := iw (each σ 0 m (fun p => offB t b (hv m σ p) (σ (34 + p)))) 33 b (lcF m t b σ)
theorem lcF_rng {m b : Nat} {t : Int} {σ : IM} (ht : 0 ≤ t ∧ t ≤ 1000) (h : -1000 ≤ σ 33 b ∧ σ 33 b ≤ 1000) : -1000 ≤ lcF m t b σ ∧ lcF m t b σ ≤ 1000 := by
  unfold lcF
  split <;> omega
theorem nF_rng {m b : Nat} {t : Int} {σ : IM} (hm : m ≤ 10) : 0 ≤ nF m t b σ ∧ nF m t b σ ≤ 20 := by
  have h1 := spF_le (m := m) (B := b) (σ := σ) m 0 0
  have h2 := popc_le (mskF m b σ m 0 0)
  have h3 := cntV_rng (c := (popc (mskF m b σ m 0 0) : Int)) (t := t) (last := σ 33 b) (l1 := σ 32 1) (l2 := σ 32 2) (by omega)
  unfold nF
  omega
theorem sofX {m b : Nat} {t u v w : Int} {σ : IM} (hb : b < 2) (hm : m ≤ 10) (ht : 0 ≤ t ∧ t ≤ 1000) (hu : u ≤ 1000) (hv0 : v ≤ 1000) (hw : w ≤ 1000) (hs : σ 30 6 = (m : Int)) (hL : ∀ j, j < 6 → 0 ≤ σ 32 j ∧ σ 32 j ≤ 200) (hC : -1000 ≤ σ 33 b ∧ σ 33 b ≤ 1000) (hT : ∀ p, p < m → XT (σ (34 + p)) ∧ XD (σ (34 + p)) u v w) : fX0_stepOffFrom (mI b) (mI t) (enc σ) = some (mI (nF m t b σ), enc (fromF t m b σ)) := by
  have l1 := hL 1 (by omega)
  have l2 := hL 2 (by omega)
  have ml : mskF m b σ m 0 0 < 1024 := mskF_lt m 0 0 (fun p _ hp => by have := (hT p (by omega)).1; obtain ⟨s0, s1, s2, s3, s4, s5, s6, s7⟩ := this; exact s6) (by decide)
  have pl := popc_le (mskF m b σ m 0 0)
  have e33 : each σ 0 m (fun p => offB t b (hv m σ p) (σ (34 + p))) 33 b = σ 33 b := each_ne (by omega)
  have e1 : each σ 0 m (fun p => offB t b (hv m σ p) (σ (34 + p))) 32 1 = σ 32 1 := each_ne (by omega)
  have e2 : each σ 0 m (fun p => offB t b (hv m σ p) (σ (34 + p))) 32 2 = σ 32 2 := each_ne (by omega)
  obtain ⟨σ1, p1, p2, p3⟩ := countX (σ := each σ 0 m (fun p => offB t b (hv m σ p) (σ (34 + p)))) (b := b) (c := (popc (mskF m b σ m 0 0) : Int)) (t := t) hb (by omega) ht (by rw [e1]; omega) (by rw [e2]; omega) (by rw [e33]; exact hC)
  rw [e33, e1, e2] at p1 p3
  have q : σ1 = fromF t m b σ := by
    unfold fromF lcF
    funext a c
    by_cases k : a = 33 ∧ c = b
    · rw [k.1, k.2, p3, iw_eq rfl rfl]
    · rw [p2 _ _ k, iw_ne k]
  rw [← q]
  unfold fX0_stepOffFrom
  generalize hfu : mm_fu = NF; have hNF : 4096 ≤ NF := by rw [← hfu]; exact Nat.le_refl _
  have E := offX_L (K := fun (x4 : Int32) (x5 : Int32) (m6 : Mm) => mm_cl (fJ6_bitCount x4 m6) (fun (x7 : Int32) (m8 : Mm) => mm_cl (fX0_countOf x7 (mI b) (mI t) m8) (fun (x9 : Int32) (m10 : Mm) => some (x5 + x9, m10)))) (z := fun _ _ _ _ => none) (m := m) (t := t) (B := b) hm ht (by omega) hu hv0 hw m 0 NF σ 0 0 (by omega) (by omega) hs (fun p hp => ⟨(hT p hp).1, (hT p hp).2.1, (hT p hp).2.2.1⟩) (fun p _ hp => (hT p hp).2) (by decide) (Nat.le_refl 0)
  rw [cast0] at E
  simp (implicitDefEqProofs := false) (maxSteps := 1000000) (disch := omega) only [↓mm_lt_s, ↓cl_in, ↓cl_wi, ↓cl_has, ↓cl_isP, mL_le, lit_n, litL_n, mL_mI, mL_neg, mm_cl_s, mI_lt, mI_le, mI_eq, enc_at, enc_wr, enc_cp, mI_neg, mI_add, mI_sub, mI_mul, mI_ix, mm_ck_ok, mm_nz_ok, mm_bo_c, mm_bo_m0, mm_bo_m1, b01, Int.toNat_natCast, Int.reduceToNat, Int.reduceNeg, Int.reduceSub, Int.reduceAdd, Int.reduceMul, Int.reduceLT, Int.reduceLE, Int.reduceEq, ↓reduceIte, not_true, not_false_eq_true, not_true_eq_false, and_self, true_and, and_true, false_and, and_false, Decidable.not_not, stv1, stv2, stv3, stv4]
  refine E.trans ?_
  rw [bc_s ml]
  simp (implicitDefEqProofs := false) (maxSteps := 1000000) (disch := omega) only [↓mm_lt_s, ↓cl_in, ↓cl_wi, ↓cl_has, ↓cl_isP, mL_le, lit_n, litL_n, mL_mI, mL_neg, mm_cl_s, mI_lt, mI_le, mI_eq, enc_at, enc_wr, enc_cp, mI_neg, mI_add, mI_sub, mI_mul, mI_ix, mm_ck_ok, mm_nz_ok, mm_bo_c, mm_bo_m0, mm_bo_m1, b01, Int.toNat_natCast, Int.reduceToNat, Int.reduceNeg, Int.reduceSub, Int.reduceAdd, Int.reduceMul, Int.reduceLT, Int.reduceLE, Int.reduceEq, ↓reduceIte, not_true, not_false_eq_true, not_true_eq_false, and_self, true_and, and_true, false_and, and_false, Decidable.not_not, stv1, stv2, stv3, stv4]
  rw [p1]
  unfold nF
  simp (implicitDefEqProofs := false) (maxSteps := 1000000) (disch := omega) only [↓mm_lt_s, ↓cl_in, ↓cl_wi, ↓cl_has, ↓cl_isP, mL_le, lit_n, litL_n, mL_mI, mL_neg, mm_cl_s, mI_lt, mI_le, mI_eq, enc_at, enc_wr, enc_cp, mI_neg, mI_add, mI_sub, mI_mul, mI_ix, mm_ck_ok, mm_nz_ok, mm_bo_c, mm_bo_m0, mm_bo_m1, b01, Int.toNat_natCast, Int.reduceToNat, Int.reduceNeg, Int.reduceSub, Int.reduceAdd, Int.reduceMul, Int.reduceLT, Int.reduceLE, Int.reduceEq, ↓reduceIte, not_true, not_false_eq_true, not_true_eq_false, and_self, true_and, and_true, false_and, and_false, Decidable.not_not, stv1, stv2, stv3, stv4]
/-- both banks at once -/
def offF (t : Int) (m : Nat) (σ : IM) : IM := iw (iw (iw (iw (each σ 0 m (fun p => offR t (hv m σ p) (σ (34 + p)))) 33 0 (lcF m t 0 σ)) 33 1 (lcF m t 1 σ)) 30 5 (σ 30 5 + (nF m t 0 σ + nF m t 1 σ))) 30 3 (if σ 30 3 + σ 32 0 * (nF m t 0 σ + nF m t 1 σ) < 400 then σ 30 3 + σ 32 0 * (nF m t 0 σ + nF m t 1 σ) else 400)
theorem fromF_row {t : Int} {m b p : Nat} {σ : IM} (hp : p < m) : fromF t m b σ (34 + p) = offB t b (hv m σ p) (σ (34 + p)) := funext fun c => by
  unfold fromF
  rw [iw_ne (by omega), each_in (by omega) hp]
theorem fromF_ne {t : Int} {m b a c : Nat} {σ : IM} (h1 : ¬ (34 ≤ a ∧ a < 34 + m)) (h2 : ¬ (a = 33 ∧ c = b)) : fromF t m b σ a c = σ a c := by
  unfold fromF
  rw [iw_ne h2, each_ne (by omega)]
theorem hv_from {t : Int} {m p : Nat} {σ : IM} (hp : p < m) (c : ¬ (σ (34 + p) 8 = 2 ∧ σ (34 + p) 9 = 0)) : hv m (fromF t m 0 σ) p = hv m σ p := by
  have r : fromF t m 0 σ (34 + p) = σ (34 + p) := by rw [fromF_row hp]; exact offB_no c
  refine hv_cong (by rw [r]) (by rw [r]) (fun q hq => ?_)
  rw [fromF_row hq]
  by_cases d : σ (34 + q) 8 = 2 ∧ σ (34 + q) 9 = 0
  · have k : offB t (0 : Nat) (hv m σ q) (σ (34 + q)) 8 ≠ 1 := by
      rw [offB_yes (by rw [d.2]; rfl)]
      have := offR_8 (t := t) (h := hv m σ q) d.1
      omega
    exact ⟨fun x => absurd x.1 k, fun x => by have := x.1; omega⟩
  · rw [offB_no (B := ((0 : Nat) : Int)) d]
theorem from_off {t : Int} {m p : Nat} {σ : IM} (hp : p < m) (h9 : 0 ≤ σ (34 + p) 9 ∧ σ (34 + p) 9 ≤ 1) : offB t (1 : Nat) (hv m (fromF t m 0 σ) p) (fromF t m 0 σ (34 + p)) = offR t (hv m σ p) (σ (34 + p)) := by
  rw [fromF_row hp]
  by_cases c : σ (34 + p) 8 = 2 ∧ σ (34 + p) 9 = 0
  · rw [offB_yes (B := ((0 : Nat) : Int)) (by rw [c.2]; rfl)]
    refine offB_no (fun x => ?_)
    by_cases d : hv m σ p = 1
    · have e : offR t (hv m σ p) (σ (34 + p)) 9 = σ (34 + p) 9 := by
        unfold offR
        rw [if_pos c.1, if_pos d, if_neg (by decide)]
      have := x.2
      rw [e] at this
      omega
    · have e : offR t (hv m σ p) (σ (34 + p)) 8 = comeR t (σ (34 + p)) 8 := by
        unfold offR
        rw [if_pos c.1, if_neg d]
      have k := x.1
      rw [e] at k
      have := comeR_8 t (σ (34 + p))
      omega
  · rw [hv_from hp c, offB_no (B := ((0 : Nat) : Int)) c]
    by_cases d : σ (34 + p) 9 = 1
    · exact offB_yes (by rw [d]; rfl)
    · have d8 : ¬ σ (34 + p) 8 = 2 := fun e => c ⟨e, by omega⟩
      rw [offB_no (fun x => d8 x.1), offR_no d8]
theorem from_stp {t : Int} {m p : Nat} {σ : IM} (hp : p < m) : stp m (1 : Nat) (fromF t m 0 σ) p ↔ stp m (1 : Nat) σ p := by
  unfold stp
  by_cases c : σ (34 + p) 8 = 2 ∧ σ (34 + p) 9 = 0
  · refine ⟨fun x => ?_, fun x => by have := x.1.2; omega⟩
    exfalso
    have k := x.1
    rw [fromF_row hp, offB_yes (B := ((0 : Nat) : Int)) (by rw [c.2]; rfl)] at k
    by_cases d : hv m σ p = 1
    · have e : offR t (hv m σ p) (σ (34 + p)) 9 = σ (34 + p) 9 := by
        unfold offR
        rw [if_pos c.1, if_pos d, if_neg (by decide)]
      have := k.2
      rw [e] at this
      omega
    · have e : offR t (hv m σ p) (σ (34 + p)) 8 = comeR t (σ (34 + p)) 8 := by
        unfold offR
        rw [if_pos c.1, if_neg d]
      have k := k.1
      rw [e] at k
      have := comeR_8 t (σ (34 + p))
      omega
  · rw [hv_from hp c, fromF_row hp, offB_no (B := ((0 : Nat) : Int)) c]
theorem from_n {t : Int} {m : Nat} {σ : IM} : nF m t 1 (fromF t m 0 σ) = nF m t 1 σ ∧ lcF m t 1 (fromF t m 0 σ) = lcF m t 1 σ := by
  have e5 : ∀ p, p < m → fromF t m 0 σ (34 + p) 5 = σ (34 + p) 5 := fun p hp => by rw [fromF_row hp, offB_lo (by omega)]
  have e6 : ∀ p, p < m → fromF t m 0 σ (34 + p) 6 = σ (34 + p) 6 := fun p hp => by rw [fromF_row hp, offB_lo (by omega)]
  have a1 := mskF_cong (m := m) (B := (1 : Nat)) (σ := σ) (σ1 := fromF t m 0 σ) m 0 0 (fun p _ hp => ⟨from_stp (by omega), e5 p (by omega), e6 p (by omega)⟩)
  have a2 := spF_cong (m := m) (B := (1 : Nat)) (σ := σ) (σ1 := fromF t m 0 σ) m 0 0 (fun p _ hp => ⟨from_stp (by omega), e5 p (by omega)⟩)
  have b1 : fromF t m 0 σ 33 1 = σ 33 1 := fromF_ne (by omega) (by omega)
  have b2 : fromF t m 0 σ 32 1 = σ 32 1 := fromF_ne (by omega) (by omega)
  have b3 : fromF t m 0 σ 32 2 = σ 32 2 := fromF_ne (by omega) (by omega)
  unfold nF lcF
  rw [a1, a2, b1, b2, b3]
  exact ⟨rfl, rfl⟩
theorem offX {m : Nat} {t u v w : Int} {σ : IM} (hm : m ≤ 10) (ht : 0 ≤ t ∧ t ≤ 999) (hu : u ≤ 1000) (hv0 : v < 1000) (hw : w ≤ 1000) (hG : XG σ m t) (hT : ∀ p, p < m → XT (σ (34 + p)) ∧ XD (σ (34 + p)) u v w) : fX0_stepOff (mI t) (enc σ) = some (mI 0, enc (offF t m σ)) := by
  obtain ⟨⟨g1, -⟩, g3, g4, g2, g5, gL, gC⟩ := hG
  have l0 := gL 0 (by omega)
  have S0 := sofX (b := 0) (σ := σ) (by omega) hm (show 0 ≤ t ∧ t ≤ 1000 by omega) hu (show v ≤ 1000 by omega) hw g1 gL (gC 0 (by omega)) hT
  have n0 : ∀ a c, ¬ (34 ≤ a ∧ a < 34 + m) → ¬ (a = 33 ∧ c = 0) → fromF t m 0 σ a c = σ a c := fun a c => fromF_ne
  have S1 := sofX (b := 1) (u := u) (v := v + 1) (w := w) (σ := fromF t m 0 σ) (by omega) hm (show 0 ≤ t ∧ t ≤ 1000 by omega) hu (by omega) hw (by rw [n0 _ _ (by omega) (by omega)]; exact g1) (fun j hj => by rw [n0 _ _ (by omega) (by omega)]; exact gL j hj) (by rw [n0 _ _ (by omega) (by omega)]; exact gC 1 (by omega)) (fun p hp => by
    rw [fromF_row hp]
    exact ⟨(hT p hp).1.cong (fun b hb => offB_lo hb), offB_bd (hT p hp).1 (hT p hp).2 (by omega)⟩)
  rw [from_n.1] at S1
  have m1 := nF_rng (m := m) (b := 0) (t := t) (σ := σ) hm
  have m2 := nF_rng (m := m) (b := 1) (t := t) (σ := σ) hm
  have m3 : 0 ≤ σ 32 0 * (nF m t 0 σ + nF m t 1 σ) := Int.mul_nonneg (by omega) (by omega)
  have m4 : σ 32 0 * (nF m t 0 σ + nF m t 1 σ) ≤ 200 * 40 := Int.mul_le_mul (by omega) (by omega) (by omega) (by omega)
  have f30 : ∀ c, fromF t m 1 (fromF t m 0 σ) 30 c = σ 30 c := fun c => by rw [fromF_ne (by omega) (by omega), fromF_ne (by omega) (by omega)]
  have f32 : ∀ c, fromF t m 1 (fromF t m 0 σ) 32 c = σ 32 c := fun c => by rw [fromF_ne (by omega) (by omega), fromF_ne (by omega) (by omega)]
  have q : iw (iw (fromF t m 1 (fromF t m 0 σ)) 30 5 (σ 30 5 + (nF m t 0 σ + nF m t 1 σ))) 30 3 (if σ 30 3 + σ 32 0 * (nF m t 0 σ + nF m t 1 σ) < 400 then σ 30 3 + σ 32 0 * (nF m t 0 σ + nF m t 1 σ) else 400) = offF t m σ := by
    unfold offF
    congr 2
    funext a c
    by_cases k : 34 ≤ a ∧ a < 34 + m
    · obtain ⟨p, rfl⟩ : ∃ p, a = 34 + p := ⟨a - 34, by omega⟩
      have hp : p < m := by omega
      rw [fromF_row hp, from_off hp (hT p hp).2.2.1, iw_ne (by omega), iw_ne (by omega), each_in (by omega) hp]
    · by_cases k1 : a = 33 ∧ c = 1
      · rw [k1.1, k1.2, iw_eq rfl rfl]
        unfold fromF
        rw [iw_eq rfl rfl]
        exact from_n.2
      · rw [fromF_ne (by omega) (by omega), iw_ne k1]
        by_cases k0 : a = 33 ∧ c = 0
        · rw [k0.1, k0.2, iw_eq rfl rfl]
          unfold fromF
          rw [iw_eq rfl rfl]
        · rw [fromF_ne (by omega) k0, iw_ne k0, each_ne (by omega)]
  rw [← q]
  have s0 := S0
  have s1 := S1
  rw [show (((0 : Nat) : Int)) = 0 from rfl] at s0
  rw [show (((1 : Nat) : Int)) = 1 from rfl] at s1
  generalize nF m t 0 σ = x0 at *
  generalize nF m t 1 σ = x1 at *
  have i1 : iw (fromF t m 1 (fromF t m 0 σ)) 30 5 (σ 30 5 + (x0 + x1)) 30 3 = σ 30 3 := by rw [iw_ne (by omega), f30]
  have i2 : iw (fromF t m 1 (fromF t m 0 σ)) 30 5 (σ 30 5 + (x0 + x1)) 32 0 = σ 32 0 := by rw [iw_ne (by omega), f32]
  unfold fX0_stepOff
  simp (implicitDefEqProofs := false) (maxSteps := 1000000) (disch := omega) only [↓mm_lt_s, ↓cl_in, ↓cl_wi, ↓cl_has, ↓cl_isP, mL_le, lit_n, litL_n, mL_mI, mL_neg, mm_cl_s, mI_lt, mI_le, mI_eq, enc_at, enc_wr, enc_cp, mI_neg, mI_add, mI_sub, mI_mul, mI_ix, mm_ck_ok, mm_nz_ok, mm_bo_c, mm_bo_m0, mm_bo_m1, b01, Int.toNat_natCast, Int.reduceToNat, Int.reduceNeg, Int.reduceSub, Int.reduceAdd, Int.reduceMul, Int.reduceLT, Int.reduceLE, Int.reduceEq, ↓reduceIte, not_true, not_false_eq_true, not_true_eq_false, and_self, true_and, and_true, false_and, and_false, Decidable.not_not, stv1, stv2, stv3, stv4]
  rw [s0]
  simp (implicitDefEqProofs := false) (maxSteps := 1000000) (disch := omega) only [↓mm_lt_s, ↓cl_in, ↓cl_wi, ↓cl_has, ↓cl_isP, mL_le, lit_n, litL_n, mL_mI, mL_neg, mm_cl_s, mI_lt, mI_le, mI_eq, enc_at, enc_wr, enc_cp, mI_neg, mI_add, mI_sub, mI_mul, mI_ix, mm_ck_ok, mm_nz_ok, mm_bo_c, mm_bo_m0, mm_bo_m1, b01, Int.toNat_natCast, Int.reduceToNat, Int.reduceNeg, Int.reduceSub, Int.reduceAdd, Int.reduceMul, Int.reduceLT, Int.reduceLE, Int.reduceEq, ↓reduceIte, not_true, not_false_eq_true, not_true_eq_false, and_self, true_and, and_true, false_and, and_false, Decidable.not_not, stv1, stv2, stv3, stv4]
  rw [s1]
  by_cases c : σ 30 3 + σ 32 0 * (x0 + x1) < 400
  · simp (implicitDefEqProofs := false) (maxSteps := 1000000) (disch := omega) only [f30, i1, i2, c, ↓mm_lt_s, ↓cl_in, ↓cl_wi, ↓cl_has, ↓cl_isP, mL_le, lit_n, litL_n, mL_mI, mL_neg, mm_cl_s, mI_lt, mI_le, mI_eq, enc_at, enc_wr, enc_cp, mI_neg, mI_add, mI_sub, mI_mul, mI_ix, mm_ck_ok, mm_nz_ok, mm_bo_c, mm_bo_m0, mm_bo_m1, b01, Int.toNat_natCast, Int.reduceToNat, Int.reduceNeg, Int.reduceSub, Int.reduceAdd, Int.reduceMul, Int.reduceLT, Int.reduceLE, Int.reduceEq, ↓reduceIte, not_true, not_false_eq_true, not_true_eq_false, and_self, true_and, and_true, false_and, and_false, Decidable.not_not, stv1, stv2, stv3, stv4]
  · simp (implicitDefEqProofs := false) (maxSteps := 1000000) (disch := omega) only [f30, i1, i2, c, ↓mm_lt_s, ↓cl_in, ↓cl_wi, ↓cl_has, ↓cl_isP, mL_le, lit_n, litL_n, mL_mI, mL_neg, mm_cl_s, mI_lt, mI_le, mI_eq, enc_at, enc_wr, enc_cp, mI_neg, mI_add, mI_sub, mI_mul, mI_ix, mm_ck_ok, mm_nz_ok, mm_bo_c, mm_bo_m0, mm_bo_m1, b01, Int.toNat_natCast, Int.reduceToNat, Int.reduceNeg, Int.reduceSub, Int.reduceAdd, Int.reduceMul, Int.reduceLT, Int.reduceLE, Int.reduceEq, ↓reduceIte, not_true, not_false_eq_true, not_true_eq_false, and_self, true_and, and_true, false_and, and_false, Decidable.not_not, stv1, stv2, stv3, stv4]
