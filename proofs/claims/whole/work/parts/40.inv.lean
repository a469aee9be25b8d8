/-! days: the class by itself; what its rows keep to -/
def XT (x : Nat → Int) : Prop := (0 ≤ x 0 ∧ x 0 ≤ 499) ∧ (0 ≤ x 1 ∧ x 1 ≤ 1) ∧ (1 ≤ x 2 ∧ x 2 ≤ 40) ∧ (1 ≤ x 3 ∧ x 3 ≤ 6) ∧ (0 ≤ x 4 ∧ x 4 ≤ 60) ∧ (0 ≤ x 5 ∧ x 5 ≤ 1) ∧ (0 ≤ x 6 ∧ x 6 ≤ 9) ∧ (0 ≤ x 7 ∧ x 7 ≤ 1023)
def XD (x : Nat → Int) (u v w : Int) : Prop := (0 ≤ x 8 ∧ x 8 ≤ 4) ∧ (0 ≤ x 9 ∧ x 9 ≤ 1) ∧ (0 ≤ x 10 ∧ x 10 ≤ x 3 ∧ (x 8 ≠ 4 → x 10 < x 3)) ∧ (0 ≤ x 11 ∧ x 11 ≤ 2000) ∧ (0 ≤ x 12 ∧ x 12 ≤ 440 ∧ (x 8 = 1 → x 12 ≤ 400)) ∧ (1 ≤ x 13 ∧ x 13 ≤ 40) ∧ (0 ≤ x 14 ∧ x 14 ≤ 1000) ∧ (0 ≤ x 15 ∧ x 15 ≤ u) ∧ (0 ≤ x 16 ∧ x 16 ≤ v) ∧ (0 ≤ x 17 ∧ x 17 ≤ w)
theorem XT.cong {x x' : Nat → Int} (h : XT x) (e : ∀ b, b < 8 → x' b = x b) : XT x' := by
  unfold XT at *
  rw [e 0 (by omega), e 1 (by omega), e 2 (by omega), e 3 (by omega), e 4 (by omega), e 5 (by omega), e 6 (by omega), e 7 (by omega)]
  exact h
theorem XD.RB {x : Nat → Int} {u v w : Int} (h0 : XT x) (h : XD x u v w) (hu : u ≤ 1000) (hw : w ≤ 1000) : RB x := by
  obtain ⟨s0, s1, s2, s3, s4, s5, s6, s7⟩ := h0
  obtain ⟨a8, a9, a10, a11, a12, a13, a14, a15, a16, a17⟩ := h
  exact ⟨a8, a9, by omega, a11, by omega, by omega, s2, by omega, s4⟩
theorem XD.WB {σ : IM} {p : Nat} {u v w : Int} (h : XD (σ (34 + p)) u v w) (hv : v ≤ 1000) : WB σ p := by
  obtain ⟨a8, a9, a10, a11, a12, a13, a14, a15, a16, a17⟩ := h
  exact ⟨a8, by omega, a13, by omega⟩
/-- the walk, by rows -/
def wlkR (P : Int) (x : Nat → Int) (b : Nat) : Int := if x 8 = 1 then (if b = 12 then x 12 + x 13 else if b = 8 then (if x 12 + x 13 < P then 1 else 2) else x b) else x b
theorem walkR_r (σ : IM) (p : Nat) : walkR σ p = wlkR (σ 30 3) (σ (34 + p)) := rfl
theorem XD.walk {x : Nat → Int} {u v w P : Int} (h : XD x u v w) (hP : P ≤ 400) : XD (wlkR P x) u v w := by
  obtain ⟨a8, a9, a10, a11, a12, a13, a14, a15, a16, a17⟩ := h
  unfold XD
  by_cases c : x 8 = 1
  · by_cases d : x 12 + x 13 < P
    · simp (implicitDefEqProofs := false) only [wlkR, c, d, Nat.reduceEqDiff, Int.reduceEq, ne_eq, not_true_eq_false, not_false_eq_true, true_and, and_true, false_and, and_false, or_false, false_or, false_implies, true_implies, if_true, if_false, ↓reduceIte]
      omega
    · simp (implicitDefEqProofs := false) only [wlkR, c, d, Nat.reduceEqDiff, Int.reduceEq, ne_eq, not_true_eq_false, not_false_eq_true, true_and, and_true, false_and, and_false, or_false, false_or, false_implies, true_implies, if_true, if_false, ↓reduceIte]
      omega
  · have e : wlkR P x = x := funext fun b => by unfold wlkR; rw [if_neg c]
    rw [e]
    exact ⟨a8, a9, a10, a11, a12, a13, a14, a15, a16, a17⟩
theorem XD.come {x : Nat → Int} {u v w t : Int} (h0 : XT x) (h : XD x u v w) (h8 : x 8 ≠ 4) (ht : 0 ≤ t ∧ t ≤ 1000) : XD (comeR t x) u v w := by
  obtain ⟨s0, s1, s2, s3, s4, s5, s6, s7⟩ := h0
  obtain ⟨a8, a9, a10, a11, a12, a13, a14, a15, a16, a17⟩ := h
  unfold XD
  by_cases c : x 10 + 1 < x 3
  · simp (implicitDefEqProofs := false) only [comeR, c, Nat.reduceEqDiff, Int.reduceEq, ne_eq, not_true_eq_false, not_false_eq_true, true_and, and_true, false_and, and_false, or_false, false_or, false_implies, true_implies, if_true, if_false, ↓reduceIte]
    omega
  · simp (implicitDefEqProofs := false) only [comeR, c, Nat.reduceEqDiff, Int.reduceEq, ne_eq, not_true_eq_false, not_false_eq_true, true_and, and_true, false_and, and_false, or_false, false_or, false_implies, true_implies, if_true, if_false, ↓reduceIte]
    omega
/-- the step off, by rows; h: is it held back -/
def offR (t h : Int) (x : Nat → Int) (b : Nat) : Int := if x 8 = 2 then (if h = 1 then (if b = 16 then x 16 + 1 else x b) else comeR t x b) else x b
theorem comeR_lo {t : Int} {x : Nat → Int} {b : Nat} (h : b < 8) : comeR t x b = x b := by
  unfold comeR
  rw [if_neg (by omega), if_neg (by omega)]
  split
  · rw [if_neg (by omega), if_neg (by omega)]
  · rw [if_neg (by omega), if_neg (by omega)]
theorem comeR_hi {t : Int} {x : Nat → Int} {b : Nat} (h : 14 < b) : comeR t x b = x b := by
  unfold comeR
  rw [if_neg (by omega), if_neg (by omega)]
  split
  · rw [if_neg (by omega), if_neg (by omega)]
  · rw [if_neg (by omega), if_neg (by omega)]
theorem comeR_8 (t : Int) (x : Nat → Int) : comeR t x 8 = 0 ∨ comeR t x 8 = 4 := by
  unfold comeR
  rw [if_neg (by omega), if_neg (by omega)]
  split
  · exact Or.inl rfl
  · exact Or.inr rfl
theorem offR_lo {t h : Int} {x : Nat → Int} {b : Nat} (hb : b < 8) : offR t h x b = x b := by
  unfold offR
  split
  · split
    · rw [if_neg (by omega)]
    · exact comeR_lo hb
  · rfl
theorem XD.off {x : Nat → Int} {u v w t h : Int} (h0 : XT x) (hx : XD x u v w) (ht : 0 ≤ t ∧ t ≤ 1000) : XD (offR t h x) u (v + 1) w := by
  have hx' : XD x u (v + 1) w := by
    obtain ⟨a8, a9, a10, a11, a12, a13, a14, a15, a16, a17⟩ := hx
    exact ⟨a8, a9, a10, a11, a12, a13, a14, a15, by omega, a17⟩
  by_cases c : x 8 = 2
  · by_cases d : h = 1
    · obtain ⟨a8, a9, a10, a11, a12, a13, a14, a15, a16, a17⟩ := hx
      unfold XD
      simp (implicitDefEqProofs := false) only [offR, c, d, Nat.reduceEqDiff, Int.reduceEq, ne_eq, not_true_eq_false, not_false_eq_true, true_and, and_true, false_and, and_false, or_false, false_or, false_implies, true_implies, if_true, if_false, ↓reduceIte]
      omega
    · have e : offR t h x = comeR t x := funext fun b => by unfold offR; rw [if_pos c, if_neg d]
      rw [e]
      exact hx'.come h0 (by omega) ht
  · have e : offR t h x = x := funext fun b => by unfold offR; rw [if_neg c]
    rw [e]
    exact hx'
theorem fordR_lo {t : Int} {x : Nat → Int} {b : Nat} (h : b < 8) : fordR t x b = x b := by
  unfold fordR
  split
  · rw [comeR_lo h, if_neg (by omega)]
  · rfl
theorem XD.ford {x : Nat → Int} {u v w t : Int} (h0 : XT x) (hx : XD x u v w) (ht : 0 ≤ t ∧ t ≤ 1000) : XD (fordR t x) (u + 1) v w := by
  by_cases c : x 8 = 3 ∧ x 11 = t
  · have e : fordR t x = comeR t (fun b => if b = 15 then x 15 + 1 else x b) := funext fun b => by unfold fordR; rw [if_pos c]
    rw [e]
    obtain ⟨a8, a9, a10, a11, a12, a13, a14, a15, a16, a17⟩ := hx
    refine XD.come (h0.cong fun b hb => if_neg (by omega)) ?_ ?_ ht
    · unfold XD
      simp (implicitDefEqProofs := false) only [Nat.reduceEqDiff, Int.reduceEq, if_true, if_false, ↓reduceIte]
      omega
    · rw [if_neg (by omega)]
      omega
  · have e : fordR t x = x := funext fun b => by unfold fordR; rw [if_neg c]
    rw [e]
    obtain ⟨a8, a9, a10, a11, a12, a13, a14, a15, a16, a17⟩ := hx
    exact ⟨a8, a9, a10, a11, a12, a13, a14, by omega, a16, a17⟩
theorem XD.on {x : Nat → Int} {u v w r : Int} (h0 : XT x) (hx : XD x u v w) (h8 : x 8 = 0) (hr : r = 0 ∨ r = 1) : XD (onR r x) u v (w + 1) := by
  obtain ⟨s0, s1, s2, s3, s4, s5, s6, s7⟩ := h0
  obtain ⟨a8, a9, a10, a11, a12, a13, a14, a15, a16, a17⟩ := hx
  have hh := haf_rng s2.1 s2.2
  unfold XD
  rcases hr with rfl | rfl
  · simp (implicitDefEqProofs := false) only [onR, Nat.reduceEqDiff, Int.reduceEq, ne_eq, not_true_eq_false, not_false_eq_true, true_and, and_true, false_and, and_false, or_false, false_or, false_implies, true_implies, if_true, if_false, ↓reduceIte]
    omega
  · simp (implicitDefEqProofs := false) only [onR, Nat.reduceEqDiff, Int.reduceEq, ne_eq, not_true_eq_false, not_false_eq_true, true_and, and_true, false_and, and_false, or_false, false_or, false_implies, true_implies, if_true, if_false, ↓reduceIte]
    omega
theorem XD.fs {x : Nat → Int} {u v w z : Int} (hx : XD x u v w) (h8 : x 8 = 0) (hz : 0 ≤ z ∧ z ≤ 2000) : XD (fsR z x) u v (w + 1) := by
  obtain ⟨a8, a9, a10, a11, a12, a13, a14, a15, a16, a17⟩ := hx
  unfold XD
  simp (implicitDefEqProofs := false) only [fsR, Nat.reduceEqDiff, Int.reduceEq, ne_eq, not_true_eq_false, not_false_eq_true, true_and, and_true, false_and, and_false, or_false, false_or, false_implies, true_implies, if_true, if_false, ↓reduceIte]
  omega
theorem XD.up {x : Nat → Int} {u v w : Int} (hx : XD x u v w) : XD x u v (w + 1) := by
  obtain ⟨a8, a9, a10, a11, a12, a13, a14, a15, a16, a17⟩ := hx
  exact ⟨a8, a9, a10, a11, a12, a13, a14, a15, a16, by omega⟩
/-- the day's own numbers -/
def XG (σ : IM) (m : Nat) (t : Int) : Prop := (σ 30 6 = (m : Int) ∧ m ≤ 10) ∧ (1 ≤ σ 30 3 ∧ σ 30 3 ≤ 400) ∧ (0 ≤ σ 30 4 ∧ σ 30 4 ≤ 1000) ∧ (-1 ≤ σ 30 2 ∧ σ 30 2 < 1024) ∧ (0 ≤ σ 30 5 ∧ σ 30 5 ≤ 40 * t) ∧ (∀ j, j < 6 → 0 ≤ σ 32 j ∧ σ 32 j ≤ 200) ∧ (∀ b, b < 2 → -1000 ≤ σ 33 b ∧ σ 33 b ≤ 1000)
/-- the night -/
def nightF (t : Int) (σ : IM) : IM := if 0 < t ∧ t - t / 240 * 240 = 0 then iw σ 30 3 (if 1 < σ 30 3 - σ 32 3 then σ 30 3 - σ 32 3 else 1) else σ
theorem nightX {σ : IM} {t : Int} (ht : 0 ≤ t ∧ t ≤ 1000) (h3 : 1 ≤ σ 30 3 ∧ σ 30 3 ≤ 400) (hL : 0 ≤ σ 32 3 ∧ σ 32 3 ≤ 500) : fX0_haveNight (mI t) (enc σ) = some (mI 0, enc (nightF t σ)) := by
  unfold nightF
  by_cases c1 : t ≤ 0
  · have E : ∀ s : IM, (if 0 < t ∧ t - t / 240 * 240 = 0 then s else σ) = σ := fun s => if_neg (by omega)
    rw [E]
    unfold fX0_haveNight
    simp (implicitDefEqProofs := false) (maxSteps := 1000000) (disch := omega) only [c1, ↓mm_lt_s, ↓cl_in, ↓cl_wi, ↓cl_has, ↓cl_isP, mL_le, lit_n, litL_n, mL_mI, mL_neg, mm_cl_s, mI_lt, mI_le, mI_eq, enc_at, enc_wr, enc_cp, mI_neg, mI_add, mI_sub, mI_mul, mI_ix, mm_ck_ok, mm_nz_ok, mm_bo_c, mm_bo_m0, mm_bo_m1, b01, Int.toNat_natCast, Int.reduceToNat, Int.reduceNeg, Int.reduceSub, Int.reduceAdd, Int.reduceMul, Int.reduceLT, Int.reduceLE, Int.reduceEq, ↓reduceIte, not_true, not_false_eq_true, not_true_eq_false, and_self, true_and, and_true, false_and, and_false, Decidable.not_not, stv1, stv2, stv3, stv4]
  · by_cases c2 : t - t / 240 * 240 = 0
    · have E : ∀ s : IM, (if 0 < t ∧ t - t / 240 * 240 = 0 then s else σ) = s := fun s => if_pos ⟨by omega, c2⟩
      rw [E]
      unfold fX0_haveNight
      by_cases c3 : 1 < σ 30 3 - σ 32 3
      · simp (implicitDefEqProofs := false) (maxSteps := 1000000) (disch := omega) only [c1, mI_div, eq_true c2, c3, ↓mm_lt_s, ↓cl_in, ↓cl_wi, ↓cl_has, ↓cl_isP, mL_le, lit_n, litL_n, mL_mI, mL_neg, mm_cl_s, mI_lt, mI_le, mI_eq, enc_at, enc_wr, enc_cp, mI_neg, mI_add, mI_sub, mI_mul, mI_ix, mm_ck_ok, mm_nz_ok, mm_bo_c, mm_bo_m0, mm_bo_m1, b01, Int.toNat_natCast, Int.reduceToNat, Int.reduceNeg, Int.reduceSub, Int.reduceAdd, Int.reduceMul, Int.reduceLT, Int.reduceLE, Int.reduceEq, ↓reduceIte, not_true, not_false_eq_true, not_true_eq_false, and_self, true_and, and_true, false_and, and_false, Decidable.not_not, stv1, stv2, stv3, stv4]
      · simp (implicitDefEqProofs := false) (maxSteps := 1000000) (disch := omega) only [c1, mI_div, eq_true c2, c3, ↓mm_lt_s, ↓cl_in, ↓cl_wi, ↓cl_has, ↓cl_isP, mL_le, lit_n, litL_n, mL_mI, mL_neg, mm_cl_s, mI_lt, mI_le, mI_eq, enc_at, enc_wr, enc_cp, mI_neg, mI_add, mI_sub, mI_mul, mI_ix, mm_ck_ok, mm_nz_ok, mm_bo_c, mm_bo_m0, mm_bo_m1, b01, Int.toNat_natCast, Int.reduceToNat, Int.reduceNeg, Int.reduceSub, Int.reduceAdd, Int.reduceMul, Int.reduceLT, Int.reduceLE, Int.reduceEq, ↓reduceIte, not_true, not_false_eq_true, not_true_eq_false, and_self, true_and, and_true, false_and, and_false, Decidable.not_not, stv1, stv2, stv3, stv4]
    · have E : ∀ s : IM, (if 0 < t ∧ t - t / 240 * 240 = 0 then s else σ) = σ := fun s => if_neg (fun h => c2 h.2)
      rw [E]
      unfold fX0_haveNight
      simp (implicitDefEqProofs := false) (maxSteps := 1000000) (disch := omega) only [c1, mI_div, c2, ↓mm_lt_s, ↓cl_in, ↓cl_wi, ↓cl_has, ↓cl_isP, mL_le, lit_n, litL_n, mL_mI, mL_neg, mm_cl_s, mI_lt, mI_le, mI_eq, enc_at, enc_wr, enc_cp, mI_neg, mI_add, mI_sub, mI_mul, mI_ix, mm_ck_ok, mm_nz_ok, mm_bo_c, mm_bo_m0, mm_bo_m1, b01, Int.toNat_natCast, Int.reduceToNat, Int.reduceNeg, Int.reduceSub, Int.reduceAdd, Int.reduceMul, Int.reduceLT, Int.reduceLE, Int.reduceEq, ↓reduceIte, not_true, not_false_eq_true, not_true_eq_false, and_self, true_and, and_true, false_and, and_false, Decidable.not_not, stv1, stv2, stv3, stv4]
theorem nightF_ne {t : Int} {σ : IM} {a b : Nat} (h : ¬ (a = 30 ∧ b = 3)) : nightF t σ a b = σ a b := by
  unfold nightF
  split
  · exact iw_ne h
  · rfl
theorem nightF_rng {t : Int} {σ : IM} (h : 1 ≤ σ 30 3 ∧ σ 30 3 ≤ 400) (hL : 0 ≤ σ 32 3) : 1 ≤ nightF t σ 30 3 ∧ nightF t σ 30 3 ≤ 400 := by
  unfold nightF
  split
  · rw [iw_eq rfl rfl]
    split <;> omega
  · exact h
/-- held back: by one of the walkers from i on -/
def hvF (σ : IM) (p : Nat) : Nat → Nat → Int
  | 0, _ => 0
  | d + 1, i => if bitZ (σ (34 + p) 7) i = 1 ∧ σ (34 + i) 8 = 1 ∧ σ (34 + i) 9 = σ (34 + p) 9 then 1 else hvF σ p d (i + 1)
theorem hvF_01 (σ : IM) (p : Nat) : ∀ d i, hvF σ p d i = 0 ∨ hvF σ p d i = 1
  | 0, _ => Or.inl rfl
  | d + 1, i => by
    unfold hvF
    split
    · exact Or.inr rfl
    · exact hvF_01 σ p d (i + 1)
theorem hvF_iff (σ : IM) (p : Nat) : ∀ d i, hvF σ p d i = 1 ↔ ∃ q, (i ≤ q ∧ q < i + d) ∧ bitZ (σ (34 + p) 7) q = 1 ∧ σ (34 + q) 8 = 1 ∧ σ (34 + q) 9 = σ (34 + p) 9
  | 0, i => ⟨fun h => absurd (show (0 : Int) = 1 from h) (by decide), fun ⟨q, h, _⟩ => by omega⟩
  | d + 1, i => by
    unfold hvF
    split
    · rename_i h
      exact ⟨fun _ => ⟨i, ⟨by omega, by omega⟩, h⟩, fun _ => rfl⟩
    · rename_i h
      rw [hvF_iff σ p d (i + 1)]
      constructor
      · rintro ⟨q, h1, h2⟩
        exact ⟨q, ⟨by omega, by omega⟩, h2⟩
      · rintro ⟨q, h1, h2⟩
        have : q ≠ i := fun e => h (e ▸ h2)
        exact ⟨q, ⟨by omega, by omega⟩, h2⟩
def hv (m : Nat) (σ : IM) (p : Nat) : Int := hvF σ p m 0
theorem hv_01 (m : Nat) (σ : IM) (p : Nat) : hv m σ p = 0 ∨ hv m σ p = 1 := hvF_01 σ p m 0
theorem hv_iff {m : Nat} {σ : IM} {p : Nat} : hv m σ p = 1 ↔ ∃ q, q < m ∧ bitZ (σ (34 + p) 7) q = 1 ∧ σ (34 + q) 8 = 1 ∧ σ (34 + q) 9 = σ (34 + p) 9 := by
  refine (hvF_iff σ p m 0).trans ⟨fun ⟨q, h1, h2⟩ => ⟨q, by omega, h2⟩, fun ⟨q, h1, h2⟩ => ⟨q, ⟨by omega, by omega⟩, h2⟩⟩
theorem hv_cong {m p : Nat} {σ σ1 : IM} (h7 : σ1 (34 + p) 7 = σ (34 + p) 7) (h9 : σ1 (34 + p) 9 = σ (34 + p) 9) (h : ∀ q, q < m → ((σ1 (34 + q) 8 = 1 ∧ σ1 (34 + q) 9 = σ (34 + p) 9) ↔ (σ (34 + q) 8 = 1 ∧ σ (34 + q) 9 = σ (34 + p) 9))) : hv m σ1 p = hv m σ p := by
  have e : hv m σ1 p = 1 ↔ hv m σ p = 1 := by
    rw [hv_iff, hv_iff, h7, h9]
    constructor
    · rintro ⟨q, h1, h2, h3⟩
      exact ⟨q, h1, h2, (h q (by omega)).1 h3⟩
    · rintro ⟨q, h1, h2, h3⟩
      exact ⟨q, h1, h2, (h q (by omega)).2 h3⟩
  rcases hv_01 m σ1 p with a | a
  · rcases hv_01 m σ p with b | b
    · rw [a, b]
    · have := e.2 b
      rw [a] at this
      exact absurd this (by decide)
  · rw [a, e.1 a]
theorem heldX_L {σ : IM} {p m : Nat} {K1 K0 : Mm → Aa} {z : Int32 → Mm → Aa} (hm : m ≤ 10) (hs : σ 30 6 = (m : Int)) (h7 : 0 ≤ σ (34 + p) 7 ∧ σ (34 + p) 7 ≤ 1023) (h8 : ∀ i, i < m → 0 ≤ σ (34 + i) 8 ∧ σ (34 + i) 8 ≤ 4) (h9 : ∀ i, i < m → 0 ≤ σ (34 + i) 9 ∧ σ (34 + i) 9 ≤ 1) (hp : p < m) : ∀ (d i N : Nat), i + d = m → d < N → mm_lk z (fX0_isHeldBack_L11 (34 + p) K1 K0) N (mI i) (enc σ) = if hvF σ p d i = 1 then K1 (enc σ) else K0 (enc σ)
  | d, i, 0, _, h => absurd h (Nat.not_lt_zero d)
  | 0, i, N + 1, h, _ => by
    rw [if_neg (by show ¬ (0 : Int) = 1; decide), mm_lk_s, fX0_isHeldBack_L11]
    simp (implicitDefEqProofs := false) (maxSteps := 1000000) (disch := omega) only [hs, ↓mm_lt_s, ↓cl_in, ↓cl_wi, ↓cl_has, ↓cl_isP, mL_le, lit_n, litL_n, mL_mI, mL_neg, mm_cl_s, mI_lt, mI_le, mI_eq, enc_at, enc_wr, enc_cp, mI_neg, mI_add, mI_sub, mI_mul, mI_ix, mm_ck_ok, mm_nz_ok, mm_bo_c, mm_bo_m0, mm_bo_m1, b01, Int.toNat_natCast, Int.reduceToNat, Int.reduceNeg, Int.reduceSub, Int.reduceAdd, Int.reduceMul, Int.reduceLT, Int.reduceLE, Int.reduceEq, ↓reduceIte, not_true, not_false_eq_true, not_true_eq_false, and_self, true_and, and_true, false_and, and_false, Decidable.not_not, stv1, stv2, stv3, stv4]
    repeat (first | rw [if_pos (by omega)] | rw [if_neg (by omega)])
  | d + 1, i, N + 1, h, h2 => by
    have ih := heldX_L (K1 := K1) (K0 := K0) (z := z) hm hs h7 h8 h9 hp d (i + 1) N (by omega) (by omega)
    have q8 := h8 i (by omega)
    have q9 := h9 i (by omega)
    have r9 := h9 p hp
    have c1 : ¬ (m : Int) ≤ (i : Int) := by omega
    have B := bit_i (s := σ (34 + p) 7) (i := i) (by omega) (by omega) (by omega)
    rcases bitZ_01 (σ (34 + p) 7) i with b | b
    · have e : hvF σ p (d + 1) i = hvF σ p d (i + 1) := if_neg (fun x => by rw [b] at x; exact absurd x.1 (by decide))
      rw [e, ← ih, mm_lk_s, fX0_isHeldBack_L11]
      rw [b] at B
      simp (implicitDefEqProofs := false) (maxSteps := 1000000) (disch := omega) only [hs, c1, B, cast_s, ↓mm_lt_s, ↓cl_in, ↓cl_wi, ↓cl_has, ↓cl_isP, mL_le, lit_n, litL_n, mL_mI, mL_neg, mm_cl_s, mI_lt, mI_le, mI_eq, enc_at, enc_wr, enc_cp, mI_neg, mI_add, mI_sub, mI_mul, mI_ix, mm_ck_ok, mm_nz_ok, mm_bo_c, mm_bo_m0, mm_bo_m1, b01, Int.toNat_natCast, Int.reduceToNat, Int.reduceNeg, Int.reduceSub, Int.reduceAdd, Int.reduceMul, Int.reduceLT, Int.reduceLE, Int.reduceEq, ↓reduceIte, not_true, not_false_eq_true, not_true_eq_false, and_self, true_and, and_true, false_and, and_false, Decidable.not_not, stv1, stv2, stv3, stv4]
    · rw [b] at B
      by_cases c2 : σ (34 + i) 8 = 1
      · by_cases c3 : σ (34 + i) 9 = σ (34 + p) 9
        · have e : hvF σ p (d + 1) i = 1 := if_pos ⟨b, c2, c3⟩
          rw [e, if_pos rfl, mm_lk_s, fX0_isHeldBack_L11]
          simp (implicitDefEqProofs := false) (maxSteps := 1000000) (disch := omega) only [hs, c1, B, eq_true c2, eq_true c3, ↓mm_lt_s, ↓cl_in, ↓cl_wi, ↓cl_has, ↓cl_isP, mL_le, lit_n, litL_n, mL_mI, mL_neg, mm_cl_s, mI_lt, mI_le, mI_eq, enc_at, enc_wr, enc_cp, mI_neg, mI_add, mI_sub, mI_mul, mI_ix, mm_ck_ok, mm_nz_ok, mm_bo_c, mm_bo_m0, mm_bo_m1, b01, Int.toNat_natCast, Int.reduceToNat, Int.reduceNeg, Int.reduceSub, Int.reduceAdd, Int.reduceMul, Int.reduceLT, Int.reduceLE, Int.reduceEq, ↓reduceIte, not_true, not_false_eq_true, not_true_eq_false, and_self, true_and, and_true, false_and, and_false, Decidable.not_not, stv1, stv2, stv3, stv4]
        · have e : hvF σ p (d + 1) i = hvF σ p d (i + 1) := if_neg (fun x => c3 x.2.2)
          rw [e, ← ih, mm_lk_s, fX0_isHeldBack_L11]
          simp (implicitDefEqProofs := false) (maxSteps := 1000000) (disch := omega) only [hs, c1, B, eq_true c2, c3, cast_s, ↓mm_lt_s, ↓cl_in, ↓cl_wi, ↓cl_has, ↓cl_isP, mL_le, lit_n, litL_n, mL_mI, mL_neg, mm_cl_s, mI_lt, mI_le, mI_eq, enc_at, enc_wr, enc_cp, mI_neg, mI_add, mI_sub, mI_mul, mI_ix, mm_ck_ok, mm_nz_ok, mm_bo_c, mm_bo_m0, mm_bo_m1, b01, Int.toNat_natCast, Int.reduceToNat, Int.reduceNeg, Int.reduceSub, Int.reduceAdd, Int.reduceMul, Int.reduceLT, Int.reduceLE, Int.reduceEq, ↓reduceIte, not_true, not_false_eq_true, not_true_eq_false, and_self, true_and, and_true, false_and, and_false, Decidable.not_not, stv1, stv2, stv3, stv4]
      · have e : hvF σ p (d + 1) i = hvF σ p d (i + 1) := if_neg (fun x => c2 x.2.1)
        rw [e, ← ih, mm_lk_s, fX0_isHeldBack_L11]
        simp (implicitDefEqProofs := false) (maxSteps := 1000000) (disch := omega) only [hs, c1, B, c2, cast_s, ↓mm_lt_s, ↓cl_in, ↓cl_wi, ↓cl_has, ↓cl_isP, mL_le, lit_n, litL_n, mL_mI, mL_neg, mm_cl_s, mI_lt, mI_le, mI_eq, enc_at, enc_wr, enc_cp, mI_neg, mI_add, mI_sub, mI_mul, mI_ix, mm_ck_ok, mm_nz_ok, mm_bo_c, mm_bo_m0, mm_bo_m1, b01, Int.toNat_natCast, Int.reduceToNat, Int.reduceNeg, Int.reduceSub, Int.reduceAdd, Int.reduceMul, Int.reduceLT, Int.reduceLE, Int.reduceEq, ↓reduceIte, not_true, not_false_eq_true, not_true_eq_false, and_self, true_and, and_true, false_and, and_false, Decidable.not_not, stv1, stv2, stv3, stv4]
theorem heldX {σ : IM} {p m : Nat} (hm : m ≤ 10) (hp : p < m) (hs : σ 30 6 = (m : Int)) (h7 : 0 ≤ σ (34 + p) 7 ∧ σ (34 + p) 7 ≤ 1023) (h8 : ∀ i, i < m → 0 ≤ σ (34 + i) 8 ∧ σ (34 + i) 8 ≤ 4) (h9 : ∀ i, i < m → 0 ≤ σ (34 + i) 9 ∧ σ (34 + i) 9 ≤ 1) : fX0_isHeldBack (34 + p) (enc σ) = some (mI (hv m σ p), enc σ) := by
  by_cases c : σ (34 + p) 7 = 0
  · have e : hv m σ p = 0 := by
      rcases hv_01 m σ p with a | a
      · exact a
      · obtain ⟨q, -, h, -⟩ := hv_iff.1 a
        rw [c] at h
        unfold bitZ at h
        simp at h
    rw [e]
    unfold fX0_isHeldBack
    simp (implicitDefEqProofs := false) (maxSteps := 1000000) (disch := omega) only [c, ↓mm_lt_s, ↓cl_in, ↓cl_wi, ↓cl_has, ↓cl_isP, mL_le, lit_n, litL_n, mL_mI, mL_neg, mm_cl_s, mI_lt, mI_le, mI_eq, enc_at, enc_wr, enc_cp, mI_neg, mI_add, mI_sub, mI_mul, mI_ix, mm_ck_ok, mm_nz_ok, mm_bo_c, mm_bo_m0, mm_bo_m1, b01, Int.toNat_natCast, Int.reduceToNat, Int.reduceNeg, Int.reduceSub, Int.reduceAdd, Int.reduceMul, Int.reduceLT, Int.reduceLE, Int.reduceEq, ↓reduceIte, not_true, not_false_eq_true, not_true_eq_false, and_self, true_and, and_true, false_and, and_false, Decidable.not_not, stv1, stv2, stv3, stv4]
  · unfold fX0_isHeldBack
    generalize hfu : mm_fu = NF; have hNF : 4096 ≤ NF := by rw [← hfu]; exact Nat.le_refl _
    have E := heldX_L (K1 := fun m3 => some (mI 1, m3)) (K0 := fun m2 => some (mI 0, m2)) (z := fun _ _ => none) hm hs h7 h8 h9 hp m 0 NF (by omega) (by omega)
    rw [cast0] at E
    simp (implicitDefEqProofs := false) (maxSteps := 1000000) (disch := omega) only [c, ↓mm_lt_s, ↓cl_in, ↓cl_wi, ↓cl_has, ↓cl_isP, mL_le, lit_n, litL_n, mL_mI, mL_neg, mm_cl_s, mI_lt, mI_le, mI_eq, enc_at, enc_wr, enc_cp, mI_neg, mI_add, mI_sub, mI_mul, mI_ix, mm_ck_ok, mm_nz_ok, mm_bo_c, mm_bo_m0, mm_bo_m1, b01, Int.toNat_natCast, Int.reduceToNat, Int.reduceNeg, Int.reduceSub, Int.reduceAdd, Int.reduceMul, Int.reduceLT, Int.reduceLE, Int.reduceEq, ↓reduceIte, not_true, not_false_eq_true, not_true_eq_false, and_self, true_and, and_true, false_and, and_false, Decidable.not_not, stv1, stv2, stv3, stv4]
    refine E.trans ?_
    have hh : hv m σ p = hvF σ p m 0 := rfl
    rw [← hh]
    rcases hv_01 m σ p with a | a
    · rw [a, if_neg (by decide)]
    · rw [a, if_pos rfl]
