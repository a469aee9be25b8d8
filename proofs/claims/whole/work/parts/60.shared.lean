/-! shared: every set of ropes -/
def pop2 : Nat → Nat → Nat
  | 0, _ => 0
  | d + 1, s => s % 2 + pop2 d (s / 2)
theorem pop2_0 : ∀ d, pop2 d 0 = 0
  | 0 => rfl
  | d + 1 => by
    unfold pop2
    rw [show 0 % 2 = 0 from rfl, show 0 / 2 = 0 from rfl, pop2_0 d]
theorem pop2_all : ∀ s, s < 1024 → pop2 10 s = popc s := by decide +kernel
theorem low_all : ∀ s, s < 1024 → (mI ((s : Nat) : Int) &&& mI 1) = mI ((s % 2 : Nat) : Int) ∧ (mI ((s : Nat) : Int) >>> (mI 1 &&& mI 31)) = mI ((s / 2 : Nat) : Int) := by decide +kernel
theorem onesM_L {K : Int32 → Mm → Aa} {z : Int32 → Int32 → Mm → Aa} {μ : Mm} : ∀ (d N s c : Nat), s < 2 ^ d → d ≤ 10 → d < N → c + d ≤ 100 → mm_lk z (fX7_onesOf_L4 K) N (mI c) (mI s) μ = K (mI ((c + pop2 d s : Nat) : Int)) μ
  | d, 0, s, c, _, _, h, _ => absurd h (Nat.not_lt_zero d)
  | 0, N + 1, s, c, h, _, _, _ => by
    have e : s = 0 := by omega
    subst e
    rw [mm_lk_s, fX7_onesOf_L4]
    simp (implicitDefEqProofs := false) (maxSteps := 1000000) (disch := omega) only [↓mm_lt_s, ↓cl_in, ↓cl_wi, ↓cl_has, ↓cl_isP, mL_le, lit_n, litL_n, mL_mI, mL_neg, mm_cl_s, mI_lt, mI_le, mI_eq, enc_at, enc_wr, enc_cp, mI_neg, mI_add, mI_sub, mI_mul, mI_ix, mm_ck_ok, mm_nz_ok, mm_bo_c, mm_bo_m0, mm_bo_m1, b01, Int.toNat_natCast, Int.reduceToNat, Int.reduceNeg, Int.reduceSub, Int.reduceAdd, Int.reduceMul, Int.reduceLT, Int.reduceLE, Int.reduceEq, ↓reduceIte, not_true, not_false_eq_true, not_true_eq_false, and_self, true_and, and_true, false_and, and_false, Decidable.not_not, stv1, stv2, stv3, stv4]
    rfl
  | d + 1, N + 1, s, c, h, hd, h2, hc => by
    have le : 2 ^ (d + 1) ≤ 2 ^ 10 := Nat.pow_le_pow_right (by decide) hd
    have e2 : 2 ^ (d + 1) = 2 * 2 ^ d := by rw [Nat.pow_succ, Nat.mul_comm]
    by_cases c0 : s = 0
    · subst c0
      rw [pop2_0, mm_lk_s, fX7_onesOf_L4]
      simp (implicitDefEqProofs := false) (maxSteps := 1000000) (disch := omega) only [↓mm_lt_s, ↓cl_in, ↓cl_wi, ↓cl_has, ↓cl_isP, mL_le, lit_n, litL_n, mL_mI, mL_neg, mm_cl_s, mI_lt, mI_le, mI_eq, enc_at, enc_wr, enc_cp, mI_neg, mI_add, mI_sub, mI_mul, mI_ix, mm_ck_ok, mm_nz_ok, mm_bo_c, mm_bo_m0, mm_bo_m1, b01, Int.toNat_natCast, Int.reduceToNat, Int.reduceNeg, Int.reduceSub, Int.reduceAdd, Int.reduceMul, Int.reduceLT, Int.reduceLE, Int.reduceEq, ↓reduceIte, not_true, not_false_eq_true, not_true_eq_false, and_self, true_and, and_true, false_and, and_false, Decidable.not_not, stv1, stv2, stv3, stv4]
      rfl
    · have n0 : ¬ (s : Int) ≤ 0 := by omega
      obtain ⟨l1, l2⟩ := low_all s (by omega)
      have ih := onesM_L (K := K) (z := z) (μ := μ) d N (s / 2) (c + s % 2) (by omega) (by omega) (by omega)
      have e : c + pop2 (d + 1) s = c + s % 2 + pop2 d (s / 2) := by
        show c + (s % 2 + pop2 d (s / 2)) = _
        omega
      have e3 : (c : Int) + ((s % 2 : Nat) : Int) = ((c + s % 2 : Nat) : Int) := by omega
      rw [e, ← ih (by omega), mm_lk_s, fX7_onesOf_L4]
      simp (implicitDefEqProofs := false) (maxSteps := 1000000) (disch := omega) only [n0, l1, l2, e3, ↓mm_lt_s, ↓cl_in, ↓cl_wi, ↓cl_has, ↓cl_isP, mL_le, lit_n, litL_n, mL_mI, mL_neg, mm_cl_s, mI_lt, mI_le, mI_eq, enc_at, enc_wr, enc_cp, mI_neg, mI_add, mI_sub, mI_mul, mI_ix, mm_ck_ok, mm_nz_ok, mm_bo_c, mm_bo_m0, mm_bo_m1, b01, Int.toNat_natCast, Int.reduceToNat, Int.reduceNeg, Int.reduceSub, Int.reduceAdd, Int.reduceMul, Int.reduceLT, Int.reduceLE, Int.reduceEq, ↓reduceIte, not_true, not_false_eq_true, not_true_eq_false, and_self, true_and, and_true, false_and, and_false, Decidable.not_not, stv1, stv2, stv3, stv4]
theorem onesM {s : Nat} (h : s < 1024) (μ : Mm) : fX7_onesOf (mI s) μ = some (mI ((popc s : Nat) : Int), μ) := by
  unfold fX7_onesOf
  generalize hfu : mm_fu = NF; have hNF : 4096 ≤ NF := by rw [← hfu]; exact Nat.le_refl _
  simp (implicitDefEqProofs := false) (maxSteps := 1000000) (disch := omega) only [↓mm_lt_s, ↓cl_in, ↓cl_wi, ↓cl_has, ↓cl_isP, mL_le, lit_n, litL_n, mL_mI, mL_neg, mm_cl_s, mI_lt, mI_le, mI_eq, enc_at, enc_wr, enc_cp, mI_neg, mI_add, mI_sub, mI_mul, mI_ix, mm_ck_ok, mm_nz_ok, mm_bo_c, mm_bo_m0, mm_bo_m1, b01, Int.toNat_natCast, Int.reduceToNat, Int.reduceNeg, Int.reduceSub, Int.reduceAdd, Int.reduceMul, Int.reduceLT, Int.reduceLE, Int.reduceEq, ↓reduceIte, not_true, not_false_eq_true, not_true_eq_false, and_self, true_and, and_true, false_and, and_false, Decidable.not_not, stv1, stv2, stv3, stv4]
  have E := onesM_L (K := fun x3 m4 => some (x3, m4)) (z := fun _ _ _ => none) (μ := μ) 10 NF s 0 h (by omega) (by omega) (by omega)
  rw [cast0, pop2_all s h, Nat.zero_add] at E
  exact E
/-- the best so far, in both -/
def sB (best least best0 few : Int) : Prop := (best0 = -1 ∧ least = 1000000 ∧ best = 0 ∧ few = 0) ∨ ((best0 = best ∧ 0 ≤ best ∧ best < 1024) ∧ (few = least ∧ 0 ≤ least ∧ least ≤ 10000))
/-- what both keep through the sets -/
def SI (σ τ : IM) (m : Nat) : Prop := RX σ τ ∧ TL σ τ m ∧ σ 32 1 = τ 2 1 ∧ ∀ p, p < m → MA m (τ 1 (7 * p + 6)) (σ (34 + p) 7)
theorem shared1 {m s : Nat} {r : Int} {σ τ : IM} {best least best0 few : Int} (hr : 0 ≤ r ∧ r ≤ 10) (hI : SI σ τ m) (hs : s < 2 ^ m) (hB : sB best least best0 few) : ∃ (σ' τ' : IM) (best' least' best0' few' : Int), SI σ' τ' m ∧ sB best' least' best0' few' ∧ (0 ≤ best0 ∨ (popc s : Int) ≤ r → 0 ≤ best0') ∧ (∀ (N : Nat) (K : Int32 → Int32 → Mm → Aa) (z : Int32 → Int32 → Int32 → Mm → Aa), mm_lk z (fX6_shared_L41 (mI r) K) (N + 1) (mI best) (mI least) (mI s) (enc σ) = mm_lk z (fX6_shared_L41 (mI r) K) N (mI best') (mI least') (mI ((s + 1 : Nat) : Int)) (enc σ')) ∧ (∀ (N : Nat) (K : Int32 → Int32 → Mm → Aa) (z : Int32 → Int32 → Int32 → Mm → Aa), mm_lk z (fX7_shared_L32 (mI r) K) (N + 1) (mI best0) (mI few) (mI s) (enc τ) = mm_lk z (fX7_shared_L32 (mI r) K) N (mI best0') (mI few') (mI ((s + 1 : Nat) : Int)) (enc τ')) := by
  obtain ⟨hR, hT, h1, hM⟩ := id hI
  obtain ⟨⟨n1, n2, n3⟩, n4, n5, n6⟩ := hR.now
  have hm : τ 0 1 = (m : Int) := hT.1.2.1
  have hm10 : m ≤ 10 := by omega
  have n4' : σ 1 1 = (m : Int) := by omega
  have le : 2 ^ m ≤ 2 ^ 10 := Nat.pow_le_pow_right (by decide) hm10
  have s10 : s < 1024 := by omega
  have sh : (mI 1 <<< (mI (m : Int) &&& mI 31)) = mI ((2 ^ m : Nat) : Int) := by
    have key : ∀ k, k < 11 → (mI 1 <<< (mI ((k : Nat) : Int) &&& mI 31)) = mI ((2 ^ k : Nat) : Int) := by decide +kernel
    exact key m (by omega)
  have q1 : ¬ ((2 ^ m : Nat) : Int) ≤ (s : Int) := by omega
  have le' : ((2 ^ m : Nat) : Int) ≤ 1024 := by omega
  have pl := popc_le s
  have wr : (0 ≤ least ∧ least ≤ 1000000) ∧ (-1 ≤ best0 ∧ best0 < 1024) ∧ (0 ≤ few ∧ few ≤ 10000) ∧ (0 ≤ best ∧ best < 1024) := by
    rcases hB with ⟨b1, b2, b3, b4⟩ | ⟨⟨b1, b2, b3⟩, b4, b5, b6⟩ <;> omega
  have BS := bc_s s10
  have OS := onesM s10
  generalize hK : ((2 ^ m : Nat) : Int) = tm at *
  by_cases c : (popc s : Int) ≤ r
  · obtain ⟨⟨b1, b2, b3, b4, b5⟩, b6, b7⟩ := beginM_g (m := m) (τ := τ)
    have l1 := hT.2.2.2.1 1 (by omega)
    have e1 : lawLo 1 = 0 ∧ lawHi 1 = 2 := ⟨rfl, rfl⟩
    obtain ⟨σ', τ', c1, c2, c3, c4, c5, c6, c7⟩ := dayQ (σ := iw σ 30 2 s) (τ := τ) (τ1 := iw (beginM m τ) 0 27 s) (m := m) (last := 999) (by omega) (by omega) (hT.cong (fun a b hab => iw_ne (by omega)) (fun a b _ => rfl)) (by rw [iw_eq rfl rfl, iw_eq rfl rfl]; omega) (by rw [iw_ne (by omega), iw_ne (by omega), b4]; omega) (fun p hp => by rw [iw_ne (by omega), iw_ne (by omega), (beginM_c hp).2]; exact hM p hp) (fun a b h1 h2 => iw_ne (by omega))
    obtain ⟨S1, S2, S3⟩ := sumR (by omega) c4 c5
    have d3 := beginMs hm10 hm
    have fx : ∀ a b, frX m a b → ¬ (a = 30 ∧ b = 2) → σ' a b = σ a b := fun a b h hn => by rw [c6 a b h, iw_ne hn]
    have I' : SI σ' τ' m := by
      refine ⟨hR.day hm10 (fun a b n1 n2 n3 n4 => fx a b ⟨by omega, by omega, by omega⟩ (by omega)) c7, hT.cong (fun a b hab => fx a b ⟨by omega, by omega, by omega⟩ (by omega)) c7, ?_, fun p hp => ?_⟩
      · rw [fx _ _ ⟨by omega, by omega, by omega⟩ (by omega), c7 _ _ ⟨by omega, by omega⟩]; exact h1
      · rw [fx _ _ ⟨by omega, by omega, by omega⟩ (by omega), c7 _ _ ⟨by omega, by omega⟩]; exact hM p hp
    generalize sumO σ' m = S at *
    have goX : ∀ (N : Nat) (K : Int32 → Int32 → Mm → Aa) (z : Int32 → Int32 → Int32 → Mm → Aa), mm_lk z (fX6_shared_L41 (mI r) K) (N + 1) (mI best) (mI least) (mI s) (enc σ) = if S < least ∨ (S = least ∧ popc s < popc best.toNat) then mm_lk z (fX6_shared_L41 (mI r) K) N (mI s) (mI S) (mI ((s + 1 : Nat) : Int)) (enc σ') else mm_lk z (fX6_shared_L41 (mI r) K) N (mI best) (mI least) (mI ((s + 1 : Nat) : Int)) (enc σ') := fun N K z => by
      have BB := bc_s (n := best.toNat) (by omega)
      rw [show ((best.toNat : Nat) : Int) = best by omega] at BB
      have pb := popc_le best.toNat
      rw [mm_lk_s, fX6_shared_L41]
      simp (implicitDefEqProofs := false) (maxSteps := 1000000) (disch := omega) only [n4', sh, q1, ↓mm_lt_s, ↓cl_in, ↓cl_wi, ↓cl_has, ↓cl_isP, mL_le, lit_n, litL_n, mL_mI, mL_neg, mm_cl_s, mI_lt, mI_le, mI_eq, enc_at, enc_wr, enc_cp, mI_neg, mI_add, mI_sub, mI_mul, mI_ix, mm_ck_ok, mm_nz_ok, mm_bo_c, mm_bo_m0, mm_bo_m1, b01, Int.toNat_natCast, Int.reduceToNat, Int.reduceNeg, Int.reduceSub, Int.reduceAdd, Int.reduceMul, Int.reduceLT, Int.reduceLE, Int.reduceEq, ↓reduceIte, not_true, not_false_eq_true, not_true_eq_false, and_self, true_and, and_true, false_and, and_false, Decidable.not_not, stv1, stv2, stv3, stv4]
      rw [BS]
      simp (implicitDefEqProofs := false) (maxSteps := 1000000) (disch := omega) only [c, ↓mm_lt_s, ↓cl_in, ↓cl_wi, ↓cl_has, ↓cl_isP, mL_le, lit_n, litL_n, mL_mI, mL_neg, mm_cl_s, mI_lt, mI_le, mI_eq, enc_at, enc_wr, enc_cp, mI_neg, mI_add, mI_sub, mI_mul, mI_ix, mm_ck_ok, mm_nz_ok, mm_bo_c, mm_bo_m0, mm_bo_m1, b01, Int.toNat_natCast, Int.reduceToNat, Int.reduceNeg, Int.reduceSub, Int.reduceAdd, Int.reduceMul, Int.reduceLT, Int.reduceLE, Int.reduceEq, ↓reduceIte, not_true, not_false_eq_true, not_true_eq_false, and_self, true_and, and_true, false_and, and_false, Decidable.not_not, stv1, stv2, stv3, stv4]
      rw [c1]
      simp (implicitDefEqProofs := false) (maxSteps := 1000000) (disch := omega) only [↓mm_lt_s, ↓cl_in, ↓cl_wi, ↓cl_has, ↓cl_isP, mL_le, lit_n, litL_n, mL_mI, mL_neg, mm_cl_s, mI_lt, mI_le, mI_eq, enc_at, enc_wr, enc_cp, mI_neg, mI_add, mI_sub, mI_mul, mI_ix, mm_ck_ok, mm_nz_ok, mm_bo_c, mm_bo_m0, mm_bo_m1, b01, Int.toNat_natCast, Int.reduceToNat, Int.reduceNeg, Int.reduceSub, Int.reduceAdd, Int.reduceMul, Int.reduceLT, Int.reduceLE, Int.reduceEq, ↓reduceIte, not_true, not_false_eq_true, not_true_eq_false, and_self, true_and, and_true, false_and, and_false, Decidable.not_not, stv1, stv2, stv3, stv4]
      rw [S1]
      by_cases x1 : S < least
      · rw [if_pos (Or.inl x1)]
        simp (implicitDefEqProofs := false) (maxSteps := 1000000) (disch := omega) only [x1, cast_s, ↓mm_lt_s, ↓cl_in, ↓cl_wi, ↓cl_has, ↓cl_isP, mL_le, lit_n, litL_n, mL_mI, mL_neg, mm_cl_s, mI_lt, mI_le, mI_eq, enc_at, enc_wr, enc_cp, mI_neg, mI_add, mI_sub, mI_mul, mI_ix, mm_ck_ok, mm_nz_ok, mm_bo_c, mm_bo_m0, mm_bo_m1, b01, Int.toNat_natCast, Int.reduceToNat, Int.reduceNeg, Int.reduceSub, Int.reduceAdd, Int.reduceMul, Int.reduceLT, Int.reduceLE, Int.reduceEq, ↓reduceIte, not_true, not_false_eq_true, not_true_eq_false, and_self, true_and, and_true, false_and, and_false, Decidable.not_not, stv1, stv2, stv3, stv4]
      · by_cases x2 : S = least
        · by_cases x3 : popc s < popc best.toNat
          · rw [if_pos (Or.inr ⟨x2, x3⟩)]
            have x4 : ¬ ((popc best.toNat : Nat) : Int) ≤ ((popc s : Nat) : Int) := by omega
            simp (implicitDefEqProofs := false) (maxSteps := 1000000) (disch := omega) only [x1, eq_true x2, ↓mm_lt_s, ↓cl_in, ↓cl_wi, ↓cl_has, ↓cl_isP, mL_le, lit_n, litL_n, mL_mI, mL_neg, mm_cl_s, mI_lt, mI_le, mI_eq, enc_at, enc_wr, enc_cp, mI_neg, mI_add, mI_sub, mI_mul, mI_ix, mm_ck_ok, mm_nz_ok, mm_bo_c, mm_bo_m0, mm_bo_m1, b01, Int.toNat_natCast, Int.reduceToNat, Int.reduceNeg, Int.reduceSub, Int.reduceAdd, Int.reduceMul, Int.reduceLT, Int.reduceLE, Int.reduceEq, ↓reduceIte, not_true, not_false_eq_true, not_true_eq_false, and_self, true_and, and_true, false_and, and_false, Decidable.not_not, stv1, stv2, stv3, stv4]
            rw [BS]
            simp (implicitDefEqProofs := false) (maxSteps := 1000000) (disch := omega) only [↓mm_lt_s, ↓cl_in, ↓cl_wi, ↓cl_has, ↓cl_isP, mL_le, lit_n, litL_n, mL_mI, mL_neg, mm_cl_s, mI_lt, mI_le, mI_eq, enc_at, enc_wr, enc_cp, mI_neg, mI_add, mI_sub, mI_mul, mI_ix, mm_ck_ok, mm_nz_ok, mm_bo_c, mm_bo_m0, mm_bo_m1, b01, Int.toNat_natCast, Int.reduceToNat, Int.reduceNeg, Int.reduceSub, Int.reduceAdd, Int.reduceMul, Int.reduceLT, Int.reduceLE, Int.reduceEq, ↓reduceIte, not_true, not_false_eq_true, not_true_eq_false, and_self, true_and, and_true, false_and, and_false, Decidable.not_not, stv1, stv2, stv3, stv4]
            rw [BB]
            simp (implicitDefEqProofs := false) (maxSteps := 1000000) (disch := omega) only [x4, cast_s, ↓mm_lt_s, ↓cl_in, ↓cl_wi, ↓cl_has, ↓cl_isP, mL_le, lit_n, litL_n, mL_mI, mL_neg, mm_cl_s, mI_lt, mI_le, mI_eq, enc_at, enc_wr, enc_cp, mI_neg, mI_add, mI_sub, mI_mul, mI_ix, mm_ck_ok, mm_nz_ok, mm_bo_c, mm_bo_m0, mm_bo_m1, b01, Int.toNat_natCast, Int.reduceToNat, Int.reduceNeg, Int.reduceSub, Int.reduceAdd, Int.reduceMul, Int.reduceLT, Int.reduceLE, Int.reduceEq, ↓reduceIte, not_true, not_false_eq_true, not_true_eq_false, and_self, true_and, and_true, false_and, and_false, Decidable.not_not, stv1, stv2, stv3, stv4]
          · rw [if_neg (fun x => x.elim x1 (fun y => x3 y.2))]
            have x4 : ((popc best.toNat : Nat) : Int) ≤ ((popc s : Nat) : Int) := by omega
            simp (implicitDefEqProofs := false) (maxSteps := 1000000) (disch := omega) only [x1, eq_true x2, ↓mm_lt_s, ↓cl_in, ↓cl_wi, ↓cl_has, ↓cl_isP, mL_le, lit_n, litL_n, mL_mI, mL_neg, mm_cl_s, mI_lt, mI_le, mI_eq, enc_at, enc_wr, enc_cp, mI_neg, mI_add, mI_sub, mI_mul, mI_ix, mm_ck_ok, mm_nz_ok, mm_bo_c, mm_bo_m0, mm_bo_m1, b01, Int.toNat_natCast, Int.reduceToNat, Int.reduceNeg, Int.reduceSub, Int.reduceAdd, Int.reduceMul, Int.reduceLT, Int.reduceLE, Int.reduceEq, ↓reduceIte, not_true, not_false_eq_true, not_true_eq_false, and_self, true_and, and_true, false_and, and_false, Decidable.not_not, stv1, stv2, stv3, stv4]
            rw [BS]
            simp (implicitDefEqProofs := false) (maxSteps := 1000000) (disch := omega) only [↓mm_lt_s, ↓cl_in, ↓cl_wi, ↓cl_has, ↓cl_isP, mL_le, lit_n, litL_n, mL_mI, mL_neg, mm_cl_s, mI_lt, mI_le, mI_eq, enc_at, enc_wr, enc_cp, mI_neg, mI_add, mI_sub, mI_mul, mI_ix, mm_ck_ok, mm_nz_ok, mm_bo_c, mm_bo_m0, mm_bo_m1, b01, Int.toNat_natCast, Int.reduceToNat, Int.reduceNeg, Int.reduceSub, Int.reduceAdd, Int.reduceMul, Int.reduceLT, Int.reduceLE, Int.reduceEq, ↓reduceIte, not_true, not_false_eq_true, not_true_eq_false, and_self, true_and, and_true, false_and, and_false, Decidable.not_not, stv1, stv2, stv3, stv4]
            rw [BB]
            simp (implicitDefEqProofs := false) (maxSteps := 1000000) (disch := omega) only [x4, cast_s, ↓mm_lt_s, ↓cl_in, ↓cl_wi, ↓cl_has, ↓cl_isP, mL_le, lit_n, litL_n, mL_mI, mL_neg, mm_cl_s, mI_lt, mI_le, mI_eq, enc_at, enc_wr, enc_cp, mI_neg, mI_add, mI_sub, mI_mul, mI_ix, mm_ck_ok, mm_nz_ok, mm_bo_c, mm_bo_m0, mm_bo_m1, b01, Int.toNat_natCast, Int.reduceToNat, Int.reduceNeg, Int.reduceSub, Int.reduceAdd, Int.reduceMul, Int.reduceLT, Int.reduceLE, Int.reduceEq, ↓reduceIte, not_true, not_false_eq_true, not_true_eq_false, and_self, true_and, and_true, false_and, and_false, Decidable.not_not, stv1, stv2, stv3, stv4]
        · rw [if_neg (fun x => x.elim x1 (fun y => x2 y.1))]
          simp (implicitDefEqProofs := false) (maxSteps := 1000000) (disch := omega) only [x1, x2, cast_s, ↓mm_lt_s, ↓cl_in, ↓cl_wi, ↓cl_has, ↓cl_isP, mL_le, lit_n, litL_n, mL_mI, mL_neg, mm_cl_s, mI_lt, mI_le, mI_eq, enc_at, enc_wr, enc_cp, mI_neg, mI_add, mI_sub, mI_mul, mI_ix, mm_ck_ok, mm_nz_ok, mm_bo_c, mm_bo_m0, mm_bo_m1, b01, Int.toNat_natCast, Int.reduceToNat, Int.reduceNeg, Int.reduceSub, Int.reduceAdd, Int.reduceMul, Int.reduceLT, Int.reduceLE, Int.reduceEq, ↓reduceIte, not_true, not_false_eq_true, not_true_eq_false, and_self, true_and, and_true, false_and, and_false, Decidable.not_not, stv1, stv2, stv3, stv4]
    have goM : ∀ (N : Nat) (K : Int32 → Int32 → Mm → Aa) (z : Int32 → Int32 → Int32 → Mm → Aa), mm_lk z (fX7_shared_L32 (mI r) K) (N + 1) (mI best0) (mI few) (mI s) (enc τ) = if best0 < 0 ∨ (S < few ∨ (S = few ∧ popc s < popc best0.toNat)) then mm_lk z (fX7_shared_L32 (mI r) K) N (mI s) (mI S) (mI ((s + 1 : Nat) : Int)) (enc τ') else mm_lk z (fX7_shared_L32 (mI r) K) N (mI best0) (mI few) (mI ((s + 1 : Nat) : Int)) (enc τ') := fun N K z => by
      have cc : ¬ r < (popc s : Int) := by omega
      rw [mm_lk_s, fX7_shared_L32]
      simp (implicitDefEqProofs := false) (maxSteps := 1000000) (disch := omega) only [hm, sh, q1, ↓mm_lt_s, ↓cl_in, ↓cl_wi, ↓cl_has, ↓cl_isP, mL_le, lit_n, litL_n, mL_mI, mL_neg, mm_cl_s, mI_lt, mI_le, mI_eq, enc_at, enc_wr, enc_cp, mI_neg, mI_add, mI_sub, mI_mul, mI_ix, mm_ck_ok, mm_nz_ok, mm_bo_c, mm_bo_m0, mm_bo_m1, b01, Int.toNat_natCast, Int.reduceToNat, Int.reduceNeg, Int.reduceSub, Int.reduceAdd, Int.reduceMul, Int.reduceLT, Int.reduceLE, Int.reduceEq, ↓reduceIte, not_true, not_false_eq_true, not_true_eq_false, and_self, true_and, and_true, false_and, and_false, Decidable.not_not, stv1, stv2, stv3, stv4]
      rw [OS]
      simp (implicitDefEqProofs := false) (maxSteps := 1000000) (disch := omega) only [cc, ↓mm_lt_s, ↓cl_in, ↓cl_wi, ↓cl_has, ↓cl_isP, mL_le, lit_n, litL_n, mL_mI, mL_neg, mm_cl_s, mI_lt, mI_le, mI_eq, enc_at, enc_wr, enc_cp, mI_neg, mI_add, mI_sub, mI_mul, mI_ix, mm_ck_ok, mm_nz_ok, mm_bo_c, mm_bo_m0, mm_bo_m1, b01, Int.toNat_natCast, Int.reduceToNat, Int.reduceNeg, Int.reduceSub, Int.reduceAdd, Int.reduceMul, Int.reduceLT, Int.reduceLE, Int.reduceEq, ↓reduceIte, not_true, not_false_eq_true, not_true_eq_false, and_self, true_and, and_true, false_and, and_false, Decidable.not_not, stv1, stv2, stv3, stv4]
      rw [d3]
      simp (implicitDefEqProofs := false) (maxSteps := 1000000) (disch := omega) only [↓mm_lt_s, ↓cl_in, ↓cl_wi, ↓cl_has, ↓cl_isP, mL_le, lit_n, litL_n, mL_mI, mL_neg, mm_cl_s, mI_lt, mI_le, mI_eq, enc_at, enc_wr, enc_cp, mI_neg, mI_add, mI_sub, mI_mul, mI_ix, mm_ck_ok, mm_nz_ok, mm_bo_c, mm_bo_m0, mm_bo_m1, b01, Int.toNat_natCast, Int.reduceToNat, Int.reduceNeg, Int.reduceSub, Int.reduceAdd, Int.reduceMul, Int.reduceLT, Int.reduceLE, Int.reduceEq, ↓reduceIte, not_true, not_false_eq_true, not_true_eq_false, and_self, true_and, and_true, false_and, and_false, Decidable.not_not, stv1, stv2, stv3, stv4]
      rw [c2]
      simp (implicitDefEqProofs := false) (maxSteps := 1000000) (disch := omega) only [↓mm_lt_s, ↓cl_in, ↓cl_wi, ↓cl_has, ↓cl_isP, mL_le, lit_n, litL_n, mL_mI, mL_neg, mm_cl_s, mI_lt, mI_le, mI_eq, enc_at, enc_wr, enc_cp, mI_neg, mI_add, mI_sub, mI_mul, mI_ix, mm_ck_ok, mm_nz_ok, mm_bo_c, mm_bo_m0, mm_bo_m1, b01, Int.toNat_natCast, Int.reduceToNat, Int.reduceNeg, Int.reduceSub, Int.reduceAdd, Int.reduceMul, Int.reduceLT, Int.reduceLE, Int.reduceEq, ↓reduceIte, not_true, not_false_eq_true, not_true_eq_false, and_self, true_and, and_true, false_and, and_false, Decidable.not_not, stv1, stv2, stv3, stv4]
      rw [S2]
      by_cases x0 : best0 < 0
      · rw [if_pos (Or.inl x0)]
        simp (implicitDefEqProofs := false) (maxSteps := 1000000) (disch := omega) only [x0, cast_s, ↓mm_lt_s, ↓cl_in, ↓cl_wi, ↓cl_has, ↓cl_isP, mL_le, lit_n, litL_n, mL_mI, mL_neg, mm_cl_s, mI_lt, mI_le, mI_eq, enc_at, enc_wr, enc_cp, mI_neg, mI_add, mI_sub, mI_mul, mI_ix, mm_ck_ok, mm_nz_ok, mm_bo_c, mm_bo_m0, mm_bo_m1, b01, Int.toNat_natCast, Int.reduceToNat, Int.reduceNeg, Int.reduceSub, Int.reduceAdd, Int.reduceMul, Int.reduceLT, Int.reduceLE, Int.reduceEq, ↓reduceIte, not_true, not_false_eq_true, not_true_eq_false, and_self, true_and, and_true, false_and, and_false, Decidable.not_not, stv1, stv2, stv3, stv4]
      · by_cases x1 : S < few
        · rw [if_pos (Or.inr (Or.inl x1))]
          simp (implicitDefEqProofs := false) (maxSteps := 1000000) (disch := omega) only [x0, x1, cast_s, ↓mm_lt_s, ↓cl_in, ↓cl_wi, ↓cl_has, ↓cl_isP, mL_le, lit_n, litL_n, mL_mI, mL_neg, mm_cl_s, mI_lt, mI_le, mI_eq, enc_at, enc_wr, enc_cp, mI_neg, mI_add, mI_sub, mI_mul, mI_ix, mm_ck_ok, mm_nz_ok, mm_bo_c, mm_bo_m0, mm_bo_m1, b01, Int.toNat_natCast, Int.reduceToNat, Int.reduceNeg, Int.reduceSub, Int.reduceAdd, Int.reduceMul, Int.reduceLT, Int.reduceLE, Int.reduceEq, ↓reduceIte, not_true, not_false_eq_true, not_true_eq_false, and_self, true_and, and_true, false_and, and_false, Decidable.not_not, stv1, stv2, stv3, stv4]
        · by_cases x2 : S = few
          · have BB := onesM (s := best0.toNat) (by omega)
            rw [show ((best0.toNat : Nat) : Int) = best0 by omega] at BB
            have pb := popc_le best0.toNat
            by_cases x3 : popc s < popc best0.toNat
            · rw [if_pos (Or.inr (Or.inr ⟨x2, x3⟩))]
              have x4 : ¬ ((popc best0.toNat : Nat) : Int) ≤ ((popc s : Nat) : Int) := by omega
              simp (implicitDefEqProofs := false) (maxSteps := 1000000) (disch := omega) only [x0, x1, eq_true x2, ↓mm_lt_s, ↓cl_in, ↓cl_wi, ↓cl_has, ↓cl_isP, mL_le, lit_n, litL_n, mL_mI, mL_neg, mm_cl_s, mI_lt, mI_le, mI_eq, enc_at, enc_wr, enc_cp, mI_neg, mI_add, mI_sub, mI_mul, mI_ix, mm_ck_ok, mm_nz_ok, mm_bo_c, mm_bo_m0, mm_bo_m1, b01, Int.toNat_natCast, Int.reduceToNat, Int.reduceNeg, Int.reduceSub, Int.reduceAdd, Int.reduceMul, Int.reduceLT, Int.reduceLE, Int.reduceEq, ↓reduceIte, not_true, not_false_eq_true, not_true_eq_false, and_self, true_and, and_true, false_and, and_false, Decidable.not_not, stv1, stv2, stv3, stv4]
              rw [OS]
              simp (implicitDefEqProofs := false) (maxSteps := 1000000) (disch := omega) only [↓mm_lt_s, ↓cl_in, ↓cl_wi, ↓cl_has, ↓cl_isP, mL_le, lit_n, litL_n, mL_mI, mL_neg, mm_cl_s, mI_lt, mI_le, mI_eq, enc_at, enc_wr, enc_cp, mI_neg, mI_add, mI_sub, mI_mul, mI_ix, mm_ck_ok, mm_nz_ok, mm_bo_c, mm_bo_m0, mm_bo_m1, b01, Int.toNat_natCast, Int.reduceToNat, Int.reduceNeg, Int.reduceSub, Int.reduceAdd, Int.reduceMul, Int.reduceLT, Int.reduceLE, Int.reduceEq, ↓reduceIte, not_true, not_false_eq_true, not_true_eq_false, and_self, true_and, and_true, false_and, and_false, Decidable.not_not, stv1, stv2, stv3, stv4]
              rw [BB]
              simp (implicitDefEqProofs := false) (maxSteps := 1000000) (disch := omega) only [x4, cast_s, ↓mm_lt_s, ↓cl_in, ↓cl_wi, ↓cl_has, ↓cl_isP, mL_le, lit_n, litL_n, mL_mI, mL_neg, mm_cl_s, mI_lt, mI_le, mI_eq, enc_at, enc_wr, enc_cp, mI_neg, mI_add, mI_sub, mI_mul, mI_ix, mm_ck_ok, mm_nz_ok, mm_bo_c, mm_bo_m0, mm_bo_m1, b01, Int.toNat_natCast, Int.reduceToNat, Int.reduceNeg, Int.reduceSub, Int.reduceAdd, Int.reduceMul, Int.reduceLT, Int.reduceLE, Int.reduceEq, ↓reduceIte, not_true, not_false_eq_true, not_true_eq_false, and_self, true_and, and_true, false_and, and_false, Decidable.not_not, stv1, stv2, stv3, stv4]
            · rw [if_neg (fun x => x.elim x0 (fun x => x.elim x1 (fun y => x3 y.2)))]
              have x4 : ((popc best0.toNat : Nat) : Int) ≤ ((popc s : Nat) : Int) := by omega
              simp (implicitDefEqProofs := false) (maxSteps := 1000000) (disch := omega) only [x0, x1, eq_true x2, ↓mm_lt_s, ↓cl_in, ↓cl_wi, ↓cl_has, ↓cl_isP, mL_le, lit_n, litL_n, mL_mI, mL_neg, mm_cl_s, mI_lt, mI_le, mI_eq, enc_at, enc_wr, enc_cp, mI_neg, mI_add, mI_sub, mI_mul, mI_ix, mm_ck_ok, mm_nz_ok, mm_bo_c, mm_bo_m0, mm_bo_m1, b01, Int.toNat_natCast, Int.reduceToNat, Int.reduceNeg, Int.reduceSub, Int.reduceAdd, Int.reduceMul, Int.reduceLT, Int.reduceLE, Int.reduceEq, ↓reduceIte, not_true, not_false_eq_true, not_true_eq_false, and_self, true_and, and_true, false_and, and_false, Decidable.not_not, stv1, stv2, stv3, stv4]
              rw [OS]
              simp (implicitDefEqProofs := false) (maxSteps := 1000000) (disch := omega) only [↓mm_lt_s, ↓cl_in, ↓cl_wi, ↓cl_has, ↓cl_isP, mL_le, lit_n, litL_n, mL_mI, mL_neg, mm_cl_s, mI_lt, mI_le, mI_eq, enc_at, enc_wr, enc_cp, mI_neg, mI_add, mI_sub, mI_mul, mI_ix, mm_ck_ok, mm_nz_ok, mm_bo_c, mm_bo_m0, mm_bo_m1, b01, Int.toNat_natCast, Int.reduceToNat, Int.reduceNeg, Int.reduceSub, Int.reduceAdd, Int.reduceMul, Int.reduceLT, Int.reduceLE, Int.reduceEq, ↓reduceIte, not_true, not_false_eq_true, not_true_eq_false, and_self, true_and, and_true, false_and, and_false, Decidable.not_not, stv1, stv2, stv3, stv4]
              rw [BB]
              simp (implicitDefEqProofs := false) (maxSteps := 1000000) (disch := omega) only [x4, cast_s, ↓mm_lt_s, ↓cl_in, ↓cl_wi, ↓cl_has, ↓cl_isP, mL_le, lit_n, litL_n, mL_mI, mL_neg, mm_cl_s, mI_lt, mI_le, mI_eq, enc_at, enc_wr, enc_cp, mI_neg, mI_add, mI_sub, mI_mul, mI_ix, mm_ck_ok, mm_nz_ok, mm_bo_c, mm_bo_m0, mm_bo_m1, b01, Int.toNat_natCast, Int.reduceToNat, Int.reduceNeg, Int.reduceSub, Int.reduceAdd, Int.reduceMul, Int.reduceLT, Int.reduceLE, Int.reduceEq, ↓reduceIte, not_true, not_false_eq_true, not_true_eq_false, and_self, true_and, and_true, false_and, and_false, Decidable.not_not, stv1, stv2, stv3, stv4]
          · rw [if_neg (fun x => x.elim x0 (fun x => x.elim x1 (fun y => x2 y.1)))]
            simp (implicitDefEqProofs := false) (maxSteps := 1000000) (disch := omega) only [x0, x1, x2, cast_s, ↓mm_lt_s, ↓cl_in, ↓cl_wi, ↓cl_has, ↓cl_isP, mL_le, lit_n, litL_n, mL_mI, mL_neg, mm_cl_s, mI_lt, mI_le, mI_eq, enc_at, enc_wr, enc_cp, mI_neg, mI_add, mI_sub, mI_mul, mI_ix, mm_ck_ok, mm_nz_ok, mm_bo_c, mm_bo_m0, mm_bo_m1, b01, Int.toNat_natCast, Int.reduceToNat, Int.reduceNeg, Int.reduceSub, Int.reduceAdd, Int.reduceMul, Int.reduceLT, Int.reduceLE, Int.reduceEq, ↓reduceIte, not_true, not_false_eq_true, not_true_eq_false, and_self, true_and, and_true, false_and, and_false, Decidable.not_not, stv1, stv2, stv3, stv4]
    have eqv : (S < least ∨ (S = least ∧ popc s < popc best.toNat)) ↔ (best0 < 0 ∨ (S < few ∨ (S = few ∧ popc s < popc best0.toNat))) := by
      rcases hB with ⟨b1, b2, b3, b4⟩ | ⟨⟨b1, b2, b3⟩, b4, b5, b6⟩
      · constructor
        · intro _
          exact Or.inl (by omega)
        · intro _
          exact Or.inl (by omega)
      · rw [b1, b4]
        constructor
        · intro x
          exact Or.inr x
        · intro x
          rcases x with x | x
          · omega
          · exact x
    by_cases better : S < least ∨ (S = least ∧ popc s < popc best.toNat)
    · refine ⟨σ', τ', s, S, s, S, I', Or.inr ⟨⟨rfl, by omega, by omega⟩, rfl, S3⟩, fun _ => by omega, fun N K z => ?_, fun N K z => ?_⟩
      · rw [goX, if_pos better]
      · rw [goM, if_pos (eqv.1 better)]
    · refine ⟨σ', τ', best, least, best0, few, I', hB, fun _ => ?_, fun N K z => ?_, fun N K z => ?_⟩
      · have := fun x => better (eqv.2 (Or.inl x))
        omega
      · rw [goX, if_neg better]
      · rw [goM, if_neg (fun x => better (eqv.2 x))]
  · refine ⟨σ, τ, best, least, best0, few, hI, hB, fun x => x.elim id (fun y => absurd y c), fun N K z => ?_, fun N K z => ?_⟩
    · rw [mm_lk_s, fX6_shared_L41]
      simp (implicitDefEqProofs := false) (maxSteps := 1000000) (disch := omega) only [n4', sh, q1, ↓mm_lt_s, ↓cl_in, ↓cl_wi, ↓cl_has, ↓cl_isP, mL_le, lit_n, litL_n, mL_mI, mL_neg, mm_cl_s, mI_lt, mI_le, mI_eq, enc_at, enc_wr, enc_cp, mI_neg, mI_add, mI_sub, mI_mul, mI_ix, mm_ck_ok, mm_nz_ok, mm_bo_c, mm_bo_m0, mm_bo_m1, b01, Int.toNat_natCast, Int.reduceToNat, Int.reduceNeg, Int.reduceSub, Int.reduceAdd, Int.reduceMul, Int.reduceLT, Int.reduceLE, Int.reduceEq, ↓reduceIte, not_true, not_false_eq_true, not_true_eq_false, and_self, true_and, and_true, false_and, and_false, Decidable.not_not, stv1, stv2, stv3, stv4]
      rw [BS]
      simp (implicitDefEqProofs := false) (maxSteps := 1000000) (disch := omega) only [c, cast_s, ↓mm_lt_s, ↓cl_in, ↓cl_wi, ↓cl_has, ↓cl_isP, mL_le, lit_n, litL_n, mL_mI, mL_neg, mm_cl_s, mI_lt, mI_le, mI_eq, enc_at, enc_wr, enc_cp, mI_neg, mI_add, mI_sub, mI_mul, mI_ix, mm_ck_ok, mm_nz_ok, mm_bo_c, mm_bo_m0, mm_bo_m1, b01, Int.toNat_natCast, Int.reduceToNat, Int.reduceNeg, Int.reduceSub, Int.reduceAdd, Int.reduceMul, Int.reduceLT, Int.reduceLE, Int.reduceEq, ↓reduceIte, not_true, not_false_eq_true, not_true_eq_false, and_self, true_and, and_true, false_and, and_false, Decidable.not_not, stv1, stv2, stv3, stv4]
    · have cc : r < (popc s : Int) := by omega
      rw [mm_lk_s, fX7_shared_L32]
      simp (implicitDefEqProofs := false) (maxSteps := 1000000) (disch := omega) only [hm, sh, q1, ↓mm_lt_s, ↓cl_in, ↓cl_wi, ↓cl_has, ↓cl_isP, mL_le, lit_n, litL_n, mL_mI, mL_neg, mm_cl_s, mI_lt, mI_le, mI_eq, enc_at, enc_wr, enc_cp, mI_neg, mI_add, mI_sub, mI_mul, mI_ix, mm_ck_ok, mm_nz_ok, mm_bo_c, mm_bo_m0, mm_bo_m1, b01, Int.toNat_natCast, Int.reduceToNat, Int.reduceNeg, Int.reduceSub, Int.reduceAdd, Int.reduceMul, Int.reduceLT, Int.reduceLE, Int.reduceEq, ↓reduceIte, not_true, not_false_eq_true, not_true_eq_false, and_self, true_and, and_true, false_and, and_false, Decidable.not_not, stv1, stv2, stv3, stv4]
      rw [OS]
      simp (implicitDefEqProofs := false) (maxSteps := 1000000) (disch := omega) only [cc, cast_s, ↓mm_lt_s, ↓cl_in, ↓cl_wi, ↓cl_has, ↓cl_isP, mL_le, lit_n, litL_n, mL_mI, mL_neg, mm_cl_s, mI_lt, mI_le, mI_eq, enc_at, enc_wr, enc_cp, mI_neg, mI_add, mI_sub, mI_mul, mI_ix, mm_ck_ok, mm_nz_ok, mm_bo_c, mm_bo_m0, mm_bo_m1, b01, Int.toNat_natCast, Int.reduceToNat, Int.reduceNeg, Int.reduceSub, Int.reduceAdd, Int.reduceMul, Int.reduceLT, Int.reduceLE, Int.reduceEq, ↓reduceIte, not_true, not_false_eq_true, not_true_eq_false, and_self, true_and, and_true, false_and, and_false, Decidable.not_not, stv1, stv2, stv3, stv4]
theorem shared2 {m : Nat} {r : Int} (hr : 0 ≤ r ∧ r ≤ 10) : ∀ (d s : Nat) (σ τ : IM) (best least best0 few : Int), s + d = 2 ^ m → SI σ τ m → sB best least best0 few → ∃ (σ' τ' : IM) (best' least' best0' few' : Int), SI σ' τ' m ∧ sB best' least' best0' few' ∧ (0 ≤ best0 ∨ (0 < d ∧ (popc s : Int) ≤ r) → 0 ≤ best0') ∧ (∀ (N : Nat), d < N → ∀ (K : Int32 → Int32 → Mm → Aa) (z : Int32 → Int32 → Int32 → Mm → Aa), mm_lk z (fX6_shared_L41 (mI r) K) N (mI best) (mI least) (mI s) (enc σ) = K (mI best') (mI least') (enc σ')) ∧ (∀ (N : Nat), d < N → ∀ (K : Int32 → Int32 → Mm → Aa) (z : Int32 → Int32 → Int32 → Mm → Aa), mm_lk z (fX7_shared_L32 (mI r) K) N (mI best0) (mI few) (mI s) (enc τ) = K (mI best0') (mI few') (enc τ')) := by
  intro d
  induction d with
  | zero =>
    intro s σ τ best least best0 few h hI hB
    obtain ⟨hR, hT, h1, hM⟩ := id hI
    obtain ⟨⟨n1, n2, n3⟩, n4, n5, n6⟩ := hR.now
    have hm : τ 0 1 = (m : Int) := hT.1.2.1
    have n4' : σ 1 1 = (m : Int) := by omega
    have sh : (mI 1 <<< (mI (m : Int) &&& mI 31)) = mI ((2 ^ m : Nat) : Int) := by
      have key : ∀ k, k < 11 → (mI 1 <<< (mI ((k : Nat) : Int) &&& mI 31)) = mI ((2 ^ k : Nat) : Int) := by decide +kernel
      exact key m (by omega)
    have le : 2 ^ m ≤ 2 ^ 10 := Nat.pow_le_pow_right (by decide) (by omega)
    have e : s = 2 ^ m := by omega
    rw [e]
    have q : ((2 ^ m : Nat) : Int) ≤ ((2 ^ m : Nat) : Int) := Int.le_refl _
    have le' : ((2 ^ m : Nat) : Int) ≤ 1024 := by omega
    have ge' : 0 ≤ ((2 ^ m : Nat) : Int) := by omega
    generalize hK : ((2 ^ m : Nat) : Int) = tm at *
    refine ⟨σ, τ, best, least, best0, few, hI, hB, fun x => x.elim id (fun y => absurd y.1 (by omega)), fun N hN K z => ?_, fun N hN K z => ?_⟩
    · obtain ⟨N, rfl⟩ : ∃ M, N = M + 1 := ⟨N - 1, by omega⟩
      rw [mm_lk_s, fX6_shared_L41]
      simp (implicitDefEqProofs := false) (maxSteps := 1000000) (disch := omega) only [n4', sh, q, ↓mm_lt_s, ↓cl_in, ↓cl_wi, ↓cl_has, ↓cl_isP, mL_le, lit_n, litL_n, mL_mI, mL_neg, mm_cl_s, mI_lt, mI_le, mI_eq, enc_at, enc_wr, enc_cp, mI_neg, mI_add, mI_sub, mI_mul, mI_ix, mm_ck_ok, mm_nz_ok, mm_bo_c, mm_bo_m0, mm_bo_m1, b01, Int.toNat_natCast, Int.reduceToNat, Int.reduceNeg, Int.reduceSub, Int.reduceAdd, Int.reduceMul, Int.reduceLT, Int.reduceLE, Int.reduceEq, ↓reduceIte, not_true, not_false_eq_true, not_true_eq_false, and_self, true_and, and_true, false_and, and_false, Decidable.not_not, stv1, stv2, stv3, stv4]
    · obtain ⟨N, rfl⟩ : ∃ M, N = M + 1 := ⟨N - 1, by omega⟩
      rw [mm_lk_s, fX7_shared_L32]
      simp (implicitDefEqProofs := false) (maxSteps := 1000000) (disch := omega) only [hm, sh, q, ↓mm_lt_s, ↓cl_in, ↓cl_wi, ↓cl_has, ↓cl_isP, mL_le, lit_n, litL_n, mL_mI, mL_neg, mm_cl_s, mI_lt, mI_le, mI_eq, enc_at, enc_wr, enc_cp, mI_neg, mI_add, mI_sub, mI_mul, mI_ix, mm_ck_ok, mm_nz_ok, mm_bo_c, mm_bo_m0, mm_bo_m1, b01, Int.toNat_natCast, Int.reduceToNat, Int.reduceNeg, Int.reduceSub, Int.reduceAdd, Int.reduceMul, Int.reduceLT, Int.reduceLE, Int.reduceEq, ↓reduceIte, not_true, not_false_eq_true, not_true_eq_false, and_self, true_and, and_true, false_and, and_false, Decidable.not_not, stv1, stv2, stv3, stv4]
  | succ d ih =>
    intro s σ τ best least best0 few h hI hB
    obtain ⟨σ1, τ1, x1, x2, x3, x4, r1, r2, r0, r4, r5⟩ := shared1 (s := s) hr hI (by omega) hB
    obtain ⟨σ', τ', y1, y2, y3, y4, s1, s2, s0, s4, s5⟩ := ih (s + 1) σ1 τ1 x1 x2 x3 x4 (by omega) r1 r2
    refine ⟨σ', τ', y1, y2, y3, y4, s1, s2, fun x => s0 (Or.inl (r0 (x.elim Or.inl (fun y => Or.inr y.2)))), fun N hN K z => ?_, fun N hN K z => ?_⟩
    · obtain ⟨N, rfl⟩ : ∃ M, N = M + 1 := ⟨N - 1, by omega⟩
      rw [r4]; exact s4 N (by omega) K z
    · obtain ⟨N, rfl⟩ : ∃ M, N = M + 1 := ⟨N - 1, by omega⟩
      rw [r5]; exact s5 N (by omega) K z
theorem q_shared (r w : Int) (hr : I32 r) (hw : I32 w) {σ τ : IM} (h : RX σ τ) : Like (fX6_shared (mI r) (mI w) (enc σ)) (fX7_shared (mI r) (mI w) (enc τ)) := by
  obtain ⟨⟨n1, n2, n3⟩, n4, n5, n6⟩ := h.now
  by_cases c0 : 0 ≤ r ∧ r ≤ 10
  · by_cases c1 : 0 ≤ w ∧ w ≤ 1
    · obtain ⟨m, hm⟩ := Int.eq_ofNat_of_zero_le n5
      have hm10 : m ≤ 10 := by omega
      obtain ⟨T, M⟩ := h.TL hm
      have d1 := loadX h hm
      have le : 2 ^ m ≤ 2 ^ 10 := Nat.pow_le_pow_right (by decide) hm10
      have pos : 0 < 2 ^ m := Nat.pow_pos (by decide)
      have I0 : SI (loadF m σ) τ m := ⟨h.day hm10 (fun a b n1 n2 n3 n4 => loadF_ne n4 (by omega) (by omega)) (fun _ _ _ => rfl), T, by rw [(loadF_g (m := m) (σ := σ)).2.2.2 1 (by omega)]; exact (h.law 1 (by omega)).1, M⟩
      have p0 : popc 0 = 0 := by decide
      obtain ⟨σ', τ', y1, y2, y3, y4, s1, s2, s0, s4, s5⟩ := shared2 (m := m) (r := r) c0 (2 ^ m) 0 (loadF m σ) τ 0 1000000 (-1) 0 (by omega) I0 (Or.inl ⟨rfl, rfl, rfl, rfl⟩)
      have s6 := s0 (Or.inr ⟨pos, by rw [p0]; omega⟩)
      unfold fX6_shared fX7_shared
      generalize hfu : mm_fu = NF; have hNF : 4096 ≤ NF := by rw [← hfu]; exact Nat.le_refl _
      simp (implicitDefEqProofs := false) (maxSteps := 1000000) (disch := omega) only [↓mm_lt_s, ↓cl_in, ↓cl_wi, ↓cl_has, ↓cl_isP, mL_le, lit_n, litL_n, mL_mI, mL_neg, mm_cl_s, mI_lt, mI_le, mI_eq, enc_at, enc_wr, enc_cp, mI_neg, mI_add, mI_sub, mI_mul, mI_ix, mm_ck_ok, mm_nz_ok, mm_bo_c, mm_bo_m0, mm_bo_m1, b01, Int.toNat_natCast, Int.reduceToNat, Int.reduceNeg, Int.reduceSub, Int.reduceAdd, Int.reduceMul, Int.reduceLT, Int.reduceLE, Int.reduceEq, ↓reduceIte, not_true, not_false_eq_true, not_true_eq_false, and_self, true_and, and_true, false_and, and_false, Decidable.not_not, stv1, stv2, stv3, stv4]
      repeat (first | rw [if_pos (by omega)] | rw [if_neg (by omega)])
      rw [d1]
      simp (implicitDefEqProofs := false) (maxSteps := 1000000) (disch := omega) only [↓mm_lt_s, ↓cl_in, ↓cl_wi, ↓cl_has, ↓cl_isP, mL_le, lit_n, litL_n, mL_mI, mL_neg, mm_cl_s, mI_lt, mI_le, mI_eq, enc_at, enc_wr, enc_cp, mI_neg, mI_add, mI_sub, mI_mul, mI_ix, mm_ck_ok, mm_nz_ok, mm_bo_c, mm_bo_m0, mm_bo_m1, b01, Int.toNat_natCast, Int.reduceToNat, Int.reduceNeg, Int.reduceSub, Int.reduceAdd, Int.reduceMul, Int.reduceLT, Int.reduceLE, Int.reduceEq, ↓reduceIte, not_true, not_false_eq_true, not_true_eq_false, and_self, true_and, and_true, false_and, and_false, Decidable.not_not, stv1, stv2, stv3, stv4]
      have X := fun K z => s4 NF (by omega) K z
      have Y := fun K z => s5 NF (by omega) K z
      rw [cast0] at X Y
      rw [X, Y]
      rcases s2 with ⟨e1, -⟩ | ⟨⟨e1, e2, e3⟩, e4, e5, e6⟩
      · omega
      · rw [e1, e4]
        have : w = 0 ∨ w = 1 := by omega
        rcases this with rfl | rfl
        · simp (implicitDefEqProofs := false) (maxSteps := 1000000) (disch := omega) only [↓mm_lt_s, ↓cl_in, ↓cl_wi, ↓cl_has, ↓cl_isP, mL_le, lit_n, litL_n, mL_mI, mL_neg, mm_cl_s, mI_lt, mI_le, mI_eq, enc_at, enc_wr, enc_cp, mI_neg, mI_add, mI_sub, mI_mul, mI_ix, mm_ck_ok, mm_nz_ok, mm_bo_c, mm_bo_m0, mm_bo_m1, b01, Int.toNat_natCast, Int.reduceToNat, Int.reduceNeg, Int.reduceSub, Int.reduceAdd, Int.reduceMul, Int.reduceLT, Int.reduceLE, Int.reduceEq, ↓reduceIte, not_true, not_false_eq_true, not_true_eq_false, and_self, true_and, and_true, false_and, and_false, Decidable.not_not, stv1, stv2, stv3, stv4]
          exact Like.mk rfl rfl s1.1
        · simp (implicitDefEqProofs := false) (maxSteps := 1000000) (disch := omega) only [↓mm_lt_s, ↓cl_in, ↓cl_wi, ↓cl_has, ↓cl_isP, mL_le, lit_n, litL_n, mL_mI, mL_neg, mm_cl_s, mI_lt, mI_le, mI_eq, enc_at, enc_wr, enc_cp, mI_neg, mI_add, mI_sub, mI_mul, mI_ix, mm_ck_ok, mm_nz_ok, mm_bo_c, mm_bo_m0, mm_bo_m1, b01, Int.toNat_natCast, Int.reduceToNat, Int.reduceNeg, Int.reduceSub, Int.reduceAdd, Int.reduceMul, Int.reduceLT, Int.reduceLE, Int.reduceEq, ↓reduceIte, not_true, not_false_eq_true, not_true_eq_false, and_self, true_and, and_true, false_and, and_false, Decidable.not_not, stv1, stv2, stv3, stv4]
          exact Like.mk rfl rfl s1.1
    · unfold fX6_shared fX7_shared
      simp (implicitDefEqProofs := false) (maxSteps := 1000000) (disch := omega) only [↓mm_lt_s, ↓cl_in, ↓cl_wi, ↓cl_has, ↓cl_isP, mL_le, lit_n, litL_n, mL_mI, mL_neg, mm_cl_s, mI_lt, mI_le, mI_eq, enc_at, enc_wr, enc_cp, mI_neg, mI_add, mI_sub, mI_mul, mI_ix, mm_ck_ok, mm_nz_ok, mm_bo_c, mm_bo_m0, mm_bo_m1, b01, Int.toNat_natCast, Int.reduceToNat, Int.reduceNeg, Int.reduceSub, Int.reduceAdd, Int.reduceMul, Int.reduceLT, Int.reduceLE, Int.reduceEq, ↓reduceIte, not_true, not_false_eq_true, not_true_eq_false, and_self, true_and, and_true, false_and, and_false, Decidable.not_not, stv1, stv2, stv3, stv4]
      by_cases c2 : w < 0
      · repeat (first | rw [if_pos (by omega)] | rw [if_neg (by omega)])
        exact Like.mk rfl rfl h
      · repeat (first | rw [if_pos (by omega)] | rw [if_neg (by omega)])
        exact Like.mk rfl rfl h
  · unfold fX6_shared fX7_shared
    simp (implicitDefEqProofs := false) (maxSteps := 1000000) (disch := omega) only [↓mm_lt_s, ↓cl_in, ↓cl_wi, ↓cl_has, ↓cl_isP, mL_le, lit_n, litL_n, mL_mI, mL_neg, mm_cl_s, mI_lt, mI_le, mI_eq, enc_at, enc_wr, enc_cp, mI_neg, mI_add, mI_sub, mI_mul, mI_ix, mm_ck_ok, mm_nz_ok, mm_bo_c, mm_bo_m0, mm_bo_m1, b01, Int.toNat_natCast, Int.reduceToNat, Int.reduceNeg, Int.reduceSub, Int.reduceAdd, Int.reduceMul, Int.reduceLT, Int.reduceLE, Int.reduceEq, ↓reduceIte, not_true, not_false_eq_true, not_true_eq_false, and_self, true_and, and_true, false_and, and_false, Decidable.not_not, stv1, stv2, stv3, stv4]
    by_cases c2 : r < 0
    · repeat (first | rw [if_pos (by omega)] | rw [if_neg (by omega)])
      exact Like.mk rfl rfl h
    · repeat (first | rw [if_pos (by omega)] | rw [if_neg (by omega)])
      exact Like.mk rfl rfl h
