/-! order: the next row -/
def fdP (r : Nat → Nat) : Nat → Option Nat
  | 0 => none
  | d + 1 => if r d ≤ r (d + 1) then some d else fdP r d
def fkP (r : Nat → Nat) (i : Nat) : Nat → Nat
  | 0 => 0
  | d + 1 => if r i ≤ r (d + 1) then d + 1 else fkP r i d
def swp (r : Nat → Nat) (a b k : Nat) : Nat := if k = b then r a else if k = a then r b else r k
def rvP : Nat → Nat → Nat → (Nat → Nat) → Nat → Nat
  | 0, _, _, r => r
  | d + 1, a, b, r => if b ≤ a then r else rvP d (a + 1) (b - 1) (swp r a b)
def nxP (n : Nat) (r : Nat → Nat) : Option (Nat → Nat) := match fdP r (n - 1) with
  | none => none
  | some i => some (rvP 6 (i + 1) (n - 1) (swp r i (fkP r i (n - 1))))
theorem fdP_le {r : Nat → Nat} : ∀ d i, fdP r d = some i → i < d ∧ r i ≤ r (i + 1)
  | 0, i, h => by cases h
  | d + 1, i, h => by
    unfold fdP at h
    split at h
    · cases h
      exact ⟨by omega, by assumption⟩
    · have := fdP_le d i h
      exact ⟨by omega, this.2⟩
theorem fkP_rng {r : Nat → Nat} {i : Nat} (h : r i ≤ r (i + 1)) : ∀ d, i < d → i < fkP r i d ∧ fkP r i d ≤ d
  | 0, hd => absurd hd (Nat.not_lt_zero i)
  | d + 1, hd => by
    unfold fkP
    split
    · omega
    · rename_i c
      have : i ≠ d := fun e => c (e ▸ h)
      have := fkP_rng h d (by omega)
      omega
theorem swp_lt {r : Nat → Nat} {n a b : Nat} (h : ∀ k, k < n → r k < n) (ha : a < n) (hb : b < n) : ∀ k, k < n → swp r a b k < n := fun k hk => by
  unfold swp
  split
  · exact h a ha
  · split
    · exact h b hb
    · exact h k hk
/-- the class -/
theorem p7X_L {K : Int32 → Mm → Aa} {z : Int32 → Mm → Aa} {n : Nat} {r : Nat → Nat} {σ : IM} (hn : n ≤ 6) (hr : ∀ k, k < n → σ 47 k = (r k : Int) ∧ r k < n) : ∀ (d N : Nat), d < n → d < N → mm_lk z (fX1_makeNextRow_L7 K) N (mI ((d : Int) - 1)) (enc σ) = (match fdP r d with | none => K (mI (-1)) (enc σ) | some j => K (mI (j : Int)) (enc σ))
  | d, 0, _, h => absurd h (Nat.not_lt_zero d)
  | 0, N + 1, _, _ => by
    rw [show ((0 : Nat) : Int) - 1 = -1 from rfl, mm_lk_s, fX1_makeNextRow_L7]
    simp (implicitDefEqProofs := false) (maxSteps := 1000000) (disch := omega) only [↓mm_lt_s, ↓cl_in, ↓cl_wi, ↓cl_has, ↓cl_isP, mL_le, lit_n, litL_n, mL_mI, mL_neg, mm_cl_s, mI_lt, mI_le, mI_eq, enc_at, enc_wr, enc_cp, mI_neg, mI_add, mI_sub, mI_mul, mI_ix, mm_ck_ok, mm_nz_ok, mm_bo_c, mm_bo_m0, mm_bo_m1, b01, Int.toNat_natCast, Int.reduceToNat, Int.reduceNeg, Int.reduceSub, Int.reduceAdd, Int.reduceMul, Int.reduceLT, Int.reduceLE, Int.reduceEq, ↓reduceIte, not_true, not_false_eq_true, not_true_eq_false, and_self, true_and, and_true, false_and, and_false, Decidable.not_not, stv1, stv2, stv3, stv4]
    rfl
  | d + 1, N + 1, hd, h2 => by
    obtain ⟨r1, r2⟩ := hr d (by omega)
    obtain ⟨s1, s2⟩ := hr (d + 1) hd
    have e0 : ((d + 1 : Nat) : Int) - 1 = (d : Int) := by omega
    have e1 : (d : Int) + 1 = ((d + 1 : Nat) : Int) := by omega
    have c1 : ¬ (d : Int) < 0 := by omega
    have em : (d : Int) + -1 = (d : Int) - 1 := by omega
    have e : fdP r (d + 1) = if r d ≤ r (d + 1) then some d else fdP r d := rfl
    rw [e, e0]
    by_cases c : r d ≤ r (d + 1)
    · have c' : (r d : Int) ≤ (r (d + 1) : Int) := by omega
      rw [if_pos c, mm_lk_s, fX1_makeNextRow_L7]
      simp (implicitDefEqProofs := false) (maxSteps := 1000000) (disch := omega) only [c1, e1, r1, s1, c', ↓mm_lt_s, ↓cl_in, ↓cl_wi, ↓cl_has, ↓cl_isP, mL_le, lit_n, litL_n, mL_mI, mL_neg, mm_cl_s, mI_lt, mI_le, mI_eq, enc_at, enc_wr, enc_cp, mI_neg, mI_add, mI_sub, mI_mul, mI_ix, mm_ck_ok, mm_nz_ok, mm_bo_c, mm_bo_m0, mm_bo_m1, b01, Int.toNat_natCast, Int.reduceToNat, Int.reduceNeg, Int.reduceSub, Int.reduceAdd, Int.reduceMul, Int.reduceLT, Int.reduceLE, Int.reduceEq, ↓reduceIte, not_true, not_false_eq_true, not_true_eq_false, and_self, true_and, and_true, false_and, and_false, Decidable.not_not, stv1, stv2, stv3, stv4]
    · have c' : ¬ (r d : Int) ≤ (r (d + 1) : Int) := by omega
      rw [if_neg c, ← p7X_L (K := K) (z := z) hn hr d N (by omega) (by omega), mm_lk_s, fX1_makeNextRow_L7]
      simp (implicitDefEqProofs := false) (maxSteps := 1000000) (disch := omega) only [c1, e1, r1, s1, c', em, ↓mm_lt_s, ↓cl_in, ↓cl_wi, ↓cl_has, ↓cl_isP, mL_le, lit_n, litL_n, mL_mI, mL_neg, mm_cl_s, mI_lt, mI_le, mI_eq, enc_at, enc_wr, enc_cp, mI_neg, mI_add, mI_sub, mI_mul, mI_ix, mm_ck_ok, mm_nz_ok, mm_bo_c, mm_bo_m0, mm_bo_m1, b01, Int.toNat_natCast, Int.reduceToNat, Int.reduceNeg, Int.reduceSub, Int.reduceAdd, Int.reduceMul, Int.reduceLT, Int.reduceLE, Int.reduceEq, ↓reduceIte, not_true, not_false_eq_true, not_true_eq_false, and_self, true_and, and_true, false_and, and_false, Decidable.not_not, stv1, stv2, stv3, stv4]
theorem p47X_L {K : Int32 → Mm → Aa} {z : Int32 → Mm → Aa} {n i : Nat} {r : Nat → Nat} {σ : IM} (hn : n ≤ 6) (hr : ∀ k, k < n → σ 47 k = (r k : Int) ∧ r k < n) (hi : r i ≤ r (i + 1)) : ∀ (d N : Nat), i < d → d < n → d < N → mm_lk z (fX1_makeNextRow_L47 (mI i) K) N (mI d) (enc σ) = K (mI (fkP r i d)) (enc σ)
  | d, 0, _, _, h => absurd h (Nat.not_lt_zero d)
  | 0, N + 1, hd, _, _ => absurd hd (Nat.not_lt_zero i)
  | d + 1, N + 1, hd, hdn, h2 => by
    obtain ⟨r1, r2⟩ := hr i (by omega)
    obtain ⟨s1, s2⟩ := hr (d + 1) hdn
    have c1 : ¬ ((d + 1 : Nat) : Int) ≤ (i : Int) := by omega
    have em : ((d + 1 : Nat) : Int) + -1 = (d : Int) := by omega
    have e : fkP r i (d + 1) = if r i ≤ r (d + 1) then d + 1 else fkP r i d := rfl
    rw [e]
    by_cases c : r i ≤ r (d + 1)
    · have c' : (r i : Int) ≤ (r (d + 1) : Int) := by omega
      rw [if_pos c, mm_lk_s, fX1_makeNextRow_L47]
      simp (implicitDefEqProofs := false) (maxSteps := 1000000) (disch := omega) only [c1, r1, s1, c', ↓mm_lt_s, ↓cl_in, ↓cl_wi, ↓cl_has, ↓cl_isP, mL_le, lit_n, litL_n, mL_mI, mL_neg, mm_cl_s, mI_lt, mI_le, mI_eq, enc_at, enc_wr, enc_cp, mI_neg, mI_add, mI_sub, mI_mul, mI_ix, mm_ck_ok, mm_nz_ok, mm_bo_c, mm_bo_m0, mm_bo_m1, b01, Int.toNat_natCast, Int.reduceToNat, Int.reduceNeg, Int.reduceSub, Int.reduceAdd, Int.reduceMul, Int.reduceLT, Int.reduceLE, Int.reduceEq, ↓reduceIte, not_true, not_false_eq_true, not_true_eq_false, and_self, true_and, and_true, false_and, and_false, Decidable.not_not, stv1, stv2, stv3, stv4]
    · have c' : ¬ (r i : Int) ≤ (r (d + 1) : Int) := by omega
      have : i ≠ d := fun x => c (x ▸ hi)
      rw [if_neg c, ← p47X_L (K := K) (z := z) hn hr hi d N (by omega) (by omega) (by omega), mm_lk_s, fX1_makeNextRow_L47]
      simp (implicitDefEqProofs := false) (maxSteps := 1000000) (disch := omega) only [c1, r1, s1, c', em, ↓mm_lt_s, ↓cl_in, ↓cl_wi, ↓cl_has, ↓cl_isP, mL_le, lit_n, litL_n, mL_mI, mL_neg, mm_cl_s, mI_lt, mI_le, mI_eq, enc_at, enc_wr, enc_cp, mI_neg, mI_add, mI_sub, mI_mul, mI_ix, mm_ck_ok, mm_nz_ok, mm_bo_c, mm_bo_m0, mm_bo_m1, b01, Int.toNat_natCast, Int.reduceToNat, Int.reduceNeg, Int.reduceSub, Int.reduceAdd, Int.reduceMul, Int.reduceLT, Int.reduceLE, Int.reduceEq, ↓reduceIte, not_true, not_false_eq_true, not_true_eq_false, and_self, true_and, and_true, false_and, and_false, Decidable.not_not, stv1, stv2, stv3, stv4]
theorem swpX {n a b : Nat} {r : Nat → Nat} {σ : IM} (hn : n ≤ 6) (ha : a < n) (hb : b < n) (hr : ∀ k, k < n → σ 47 k = (r k : Int) ∧ r k < n) : ∃ σ1 : IM, fX1_swap (mI a) (mI b) (enc σ) = some (mI 0, enc σ1) ∧ (∀ k, k < n → σ1 47 k = (swp r a b k : Int)) ∧ ∀ p q, p ≠ 47 → σ1 p q = σ p q := by
  obtain ⟨r1, r2⟩ := hr a ha
  obtain ⟨s1, s2⟩ := hr b hb
  refine ⟨iw (iw σ 47 a (r b)) 47 b (r a), ?_, fun k hk => ?_, fun p q hp => by rw [iw_ne (by omega), iw_ne (by omega)]⟩
  · unfold fX1_swap
    simp (implicitDefEqProofs := false) (maxSteps := 1000000) (disch := omega) only [r1, s1, ↓mm_lt_s, ↓cl_in, ↓cl_wi, ↓cl_has, ↓cl_isP, mL_le, lit_n, litL_n, mL_mI, mL_neg, mm_cl_s, mI_lt, mI_le, mI_eq, enc_at, enc_wr, enc_cp, mI_neg, mI_add, mI_sub, mI_mul, mI_ix, mm_ck_ok, mm_nz_ok, mm_bo_c, mm_bo_m0, mm_bo_m1, b01, Int.toNat_natCast, Int.reduceToNat, Int.reduceNeg, Int.reduceSub, Int.reduceAdd, Int.reduceMul, Int.reduceLT, Int.reduceLE, Int.reduceEq, ↓reduceIte, not_true, not_false_eq_true, not_true_eq_false, and_self, true_and, and_true, false_and, and_false, Decidable.not_not, stv1, stv2, stv3, stv4]
  · unfold swp
    by_cases c : k = b
    · rw [if_pos c, iw_eq rfl c]
    · rw [if_neg c, iw_ne (by omega)]
      by_cases d : k = a
      · rw [if_pos d, iw_eq rfl d]
      · rw [if_neg d, iw_ne (by omega)]
        exact (hr k hk).1
theorem p91X_L {n : Nat} (hn : n ≤ 6) : ∀ (d a b : Nat) (σ : IM) (r : Nat → Nat), (b < a + d ∨ b ≤ a) → b < n → a ≤ 7 → σ 44 0 = (n : Int) → (∀ k, k < n → σ 47 k = (r k : Int) ∧ r k < n) → ∃ σ' : IM, (∀ (N : Nat), d < N → ∀ (K : Mm → Aa) (z : Int32 → Int32 → Mm → Aa), mm_lk z (fX1_makeNextRow_L91 K) N (mI b) (mI a) (enc σ) = K (enc σ')) ∧ (∀ k, k < n → σ' 47 k = (rvP d a b r k : Int) ∧ rvP d a b r k < n) ∧ ∀ p q, p ≠ 47 → σ' p q = σ p q := by
  intro d
  induction d with
  | zero =>
    intro a b σ r h hb ha h0 hr
    refine ⟨σ, fun N hN K z => ?_, hr, fun _ _ _ => rfl⟩
    obtain ⟨N, rfl⟩ : ∃ M, N = M + 1 := ⟨N - 1, by omega⟩
    have c : (b : Int) ≤ (a : Int) := by omega
    rw [mm_lk_s, fX1_makeNextRow_L91]
    simp (implicitDefEqProofs := false) (maxSteps := 1000000) (disch := omega) only [c, ↓mm_lt_s, ↓cl_in, ↓cl_wi, ↓cl_has, ↓cl_isP, mL_le, lit_n, litL_n, mL_mI, mL_neg, mm_cl_s, mI_lt, mI_le, mI_eq, enc_at, enc_wr, enc_cp, mI_neg, mI_add, mI_sub, mI_mul, mI_ix, mm_ck_ok, mm_nz_ok, mm_bo_c, mm_bo_m0, mm_bo_m1, b01, Int.toNat_natCast, Int.reduceToNat, Int.reduceNeg, Int.reduceSub, Int.reduceAdd, Int.reduceMul, Int.reduceLT, Int.reduceLE, Int.reduceEq, ↓reduceIte, not_true, not_false_eq_true, not_true_eq_false, and_self, true_and, and_true, false_and, and_false, Decidable.not_not, stv1, stv2, stv3, stv4]
  | succ d ih =>
    intro a b σ r h hb ha h0 hr
    by_cases c : b ≤ a
    · have e : rvP (d + 1) a b r = r := if_pos c
      refine ⟨σ, fun N hN K z => ?_, by rw [e]; exact hr, fun _ _ _ => rfl⟩
      obtain ⟨N, rfl⟩ : ∃ M, N = M + 1 := ⟨N - 1, by omega⟩
      have c : (b : Int) ≤ (a : Int) := by omega
      rw [mm_lk_s, fX1_makeNextRow_L91]
      simp (implicitDefEqProofs := false) (maxSteps := 1000000) (disch := omega) only [c, ↓mm_lt_s, ↓cl_in, ↓cl_wi, ↓cl_has, ↓cl_isP, mL_le, lit_n, litL_n, mL_mI, mL_neg, mm_cl_s, mI_lt, mI_le, mI_eq, enc_at, enc_wr, enc_cp, mI_neg, mI_add, mI_sub, mI_mul, mI_ix, mm_ck_ok, mm_nz_ok, mm_bo_c, mm_bo_m0, mm_bo_m1, b01, Int.toNat_natCast, Int.reduceToNat, Int.reduceNeg, Int.reduceSub, Int.reduceAdd, Int.reduceMul, Int.reduceLT, Int.reduceLE, Int.reduceEq, ↓reduceIte, not_true, not_false_eq_true, not_true_eq_false, and_self, true_and, and_true, false_and, and_false, Decidable.not_not, stv1, stv2, stv3, stv4]
    · have e : rvP (d + 1) a b r = rvP d (a + 1) (b - 1) (swp r a b) := if_neg c
      obtain ⟨σ1, p1, p2, p3⟩ := swpX (a := a) (b := b) hn (by omega) hb hr
      obtain ⟨σ', q1, q2, q3⟩ := ih (a + 1) (b - 1) σ1 (swp r a b) (by omega) (by omega) (by omega) (by rw [p3 _ _ (by omega)]; exact h0) (fun k hk => ⟨p2 k hk, swp_lt (fun k hk => (hr k hk).2) (by omega) hb k hk⟩)
      refine ⟨σ', fun N hN K z => ?_, by rw [e]; exact q2, fun p q hp => by rw [q3 p q hp, p3 p q hp]⟩
      obtain ⟨N, rfl⟩ : ∃ M, N = M + 1 := ⟨N - 1, by omega⟩
      have c' : ¬ (b : Int) ≤ (a : Int) := by omega
      have em : (b : Int) + -1 = ((b - 1 : Nat) : Int) := by omega
      rw [← q1 N (by omega) K z, mm_lk_s, fX1_makeNextRow_L91]
      simp (implicitDefEqProofs := false) (maxSteps := 1000000) (disch := omega) only [c', ↓mm_lt_s, ↓cl_in, ↓cl_wi, ↓cl_has, ↓cl_isP, mL_le, lit_n, litL_n, mL_mI, mL_neg, mm_cl_s, mI_lt, mI_le, mI_eq, enc_at, enc_wr, enc_cp, mI_neg, mI_add, mI_sub, mI_mul, mI_ix, mm_ck_ok, mm_nz_ok, mm_bo_c, mm_bo_m0, mm_bo_m1, b01, Int.toNat_natCast, Int.reduceToNat, Int.reduceNeg, Int.reduceSub, Int.reduceAdd, Int.reduceMul, Int.reduceLT, Int.reduceLE, Int.reduceEq, ↓reduceIte, not_true, not_false_eq_true, not_true_eq_false, and_self, true_and, and_true, false_and, and_false, Decidable.not_not, stv1, stv2, stv3, stv4]
      rw [p1]
      simp (implicitDefEqProofs := false) (maxSteps := 1000000) (disch := omega) only [em, cast_s, ↓mm_lt_s, ↓cl_in, ↓cl_wi, ↓cl_has, ↓cl_isP, mL_le, lit_n, litL_n, mL_mI, mL_neg, mm_cl_s, mI_lt, mI_le, mI_eq, enc_at, enc_wr, enc_cp, mI_neg, mI_add, mI_sub, mI_mul, mI_ix, mm_ck_ok, mm_nz_ok, mm_bo_c, mm_bo_m0, mm_bo_m1, b01, Int.toNat_natCast, Int.reduceToNat, Int.reduceNeg, Int.reduceSub, Int.reduceAdd, Int.reduceMul, Int.reduceLT, Int.reduceLE, Int.reduceEq, ↓reduceIte, not_true, not_false_eq_true, not_true_eq_false, and_self, true_and, and_true, false_and, and_false, Decidable.not_not, stv1, stv2, stv3, stv4]
theorem nxpX {n : Nat} {r : Nat → Nat} {σ : IM} (hn : 1 ≤ n ∧ n ≤ 6) (h0 : σ 44 0 = (n : Int)) (hr : ∀ k, k < n → σ 47 k = (r k : Int) ∧ r k < n) : (nxP n r = none ∧ fX1_makeNextRow (enc σ) = some (mI 0, enc σ)) ∨ ∃ (r' : Nat → Nat) (σ' : IM), nxP n r = some r' ∧ fX1_makeNextRow (enc σ) = some (mI 1, enc σ') ∧ (∀ k, k < n → σ' 47 k = (r' k : Int) ∧ r' k < n) ∧ ∀ a b, a ≠ 47 → σ' a b = σ a b := by
  have L := fun K z NF (hNF : n < NF) => p7X_L (K := K) (z := z) hn.2 hr (n - 1) NF (by omega) (by omega)
  have e2 : ((n - 1 : Nat) : Int) - 1 = (n : Int) - 2 := by omega
  rw [e2] at L
  unfold nxP
  cases hf : fdP r (n - 1) with
  | none =>
    rw [hf] at L
    refine Or.inl ⟨rfl, ?_⟩
    unfold fX1_makeNextRow
    generalize hfu : mm_fu = NF; have hNF : 4096 ≤ NF := by rw [← hfu]; exact Nat.le_refl _
    simp (implicitDefEqProofs := false) (maxSteps := 1000000) (disch := omega) only [h0, ↓mm_lt_s, ↓cl_in, ↓cl_wi, ↓cl_has, ↓cl_isP, mL_le, lit_n, litL_n, mL_mI, mL_neg, mm_cl_s, mI_lt, mI_le, mI_eq, enc_at, enc_wr, enc_cp, mI_neg, mI_add, mI_sub, mI_mul, mI_ix, mm_ck_ok, mm_nz_ok, mm_bo_c, mm_bo_m0, mm_bo_m1, b01, Int.toNat_natCast, Int.reduceToNat, Int.reduceNeg, Int.reduceSub, Int.reduceAdd, Int.reduceMul, Int.reduceLT, Int.reduceLE, Int.reduceEq, ↓reduceIte, not_true, not_false_eq_true, not_true_eq_false, and_self, true_and, and_true, false_and, and_false, Decidable.not_not, stv1, stv2, stv3, stv4]
    rw [L _ _ NF (by omega)]
    simp (implicitDefEqProofs := false) (maxSteps := 1000000) (disch := omega) only [↓mm_lt_s, ↓cl_in, ↓cl_wi, ↓cl_has, ↓cl_isP, mL_le, lit_n, litL_n, mL_mI, mL_neg, mm_cl_s, mI_lt, mI_le, mI_eq, enc_at, enc_wr, enc_cp, mI_neg, mI_add, mI_sub, mI_mul, mI_ix, mm_ck_ok, mm_nz_ok, mm_bo_c, mm_bo_m0, mm_bo_m1, b01, Int.toNat_natCast, Int.reduceToNat, Int.reduceNeg, Int.reduceSub, Int.reduceAdd, Int.reduceMul, Int.reduceLT, Int.reduceLE, Int.reduceEq, ↓reduceIte, not_true, not_false_eq_true, not_true_eq_false, and_self, true_and, and_true, false_and, and_false, Decidable.not_not, stv1, stv2, stv3, stv4]
  | some i =>
    rw [hf] at L
    obtain ⟨i1, i2⟩ := fdP_le _ _ hf
    obtain ⟨k1, k2⟩ := fkP_rng i2 (n - 1) i1
    have M := fun K z NF (hNF : n < NF) => p47X_L (K := K) (z := z) (i := i) hn.2 hr i2 (n - 1) NF i1 (by omega) (by omega)
    obtain ⟨σ1, p1, p2, p3⟩ := swpX (a := i) (b := fkP r i (n - 1)) hn.2 (by omega) (by omega) hr
    have lt1 := swp_lt (r := r) (n := n) (a := i) (b := fkP r i (n - 1)) (fun k hk => (hr k hk).2) (by omega) (by omega)
    obtain ⟨σ', q1, q2, q3⟩ := p91X_L hn.2 6 (i + 1) (n - 1) σ1 (swp r i (fkP r i (n - 1))) (by omega) (by omega) (by omega) (by rw [p3 _ _ (by omega)]; exact h0) (fun k hk => ⟨p2 k hk, lt1 k hk⟩)
    refine Or.inr ⟨_, σ', rfl, ?_, q2, fun a b h => by rw [q3 a b h, p3 a b h]⟩
    have c1 : (0 : Int) ≤ (i : Int) := by omega
    have e1 : (n : Int) - 1 = ((n - 1 : Nat) : Int) := by omega
    have h01 : σ1 44 0 = (n : Int) := by rw [p3 _ _ (by omega)]; exact h0
    unfold fX1_makeNextRow
    generalize hfu : mm_fu = NF; have hNF : 4096 ≤ NF := by rw [← hfu]; exact Nat.le_refl _
    simp (implicitDefEqProofs := false) (maxSteps := 1000000) (disch := omega) only [h0, ↓mm_lt_s, ↓cl_in, ↓cl_wi, ↓cl_has, ↓cl_isP, mL_le, lit_n, litL_n, mL_mI, mL_neg, mm_cl_s, mI_lt, mI_le, mI_eq, enc_at, enc_wr, enc_cp, mI_neg, mI_add, mI_sub, mI_mul, mI_ix, mm_ck_ok, mm_nz_ok, mm_bo_c, mm_bo_m0, mm_bo_m1, b01, Int.toNat_natCast, Int.reduceToNat, Int.reduceNeg, Int.reduceSub, Int.reduceAdd, Int.reduceMul, Int.reduceLT, Int.reduceLE, Int.reduceEq, ↓reduceIte, not_true, not_false_eq_true, not_true_eq_false, and_self, true_and, and_true, false_and, and_false, Decidable.not_not, stv1, stv2, stv3, stv4]
    rw [L _ _ NF (by omega)]
    simp (implicitDefEqProofs := false) (maxSteps := 1000000) (disch := omega) only [c1, h0, e1, ↓mm_lt_s, ↓cl_in, ↓cl_wi, ↓cl_has, ↓cl_isP, mL_le, lit_n, litL_n, mL_mI, mL_neg, mm_cl_s, mI_lt, mI_le, mI_eq, enc_at, enc_wr, enc_cp, mI_neg, mI_add, mI_sub, mI_mul, mI_ix, mm_ck_ok, mm_nz_ok, mm_bo_c, mm_bo_m0, mm_bo_m1, b01, Int.toNat_natCast, Int.reduceToNat, Int.reduceNeg, Int.reduceSub, Int.reduceAdd, Int.reduceMul, Int.reduceLT, Int.reduceLE, Int.reduceEq, ↓reduceIte, not_true, not_false_eq_true, not_true_eq_false, and_self, true_and, and_true, false_and, and_false, Decidable.not_not, stv1, stv2, stv3, stv4]
    rw [M _ _ NF (by omega)]
    rw [p1]
    simp (implicitDefEqProofs := false) (maxSteps := 1000000) (disch := omega) only [h01, e1, cast_s, ↓mm_lt_s, ↓cl_in, ↓cl_wi, ↓cl_has, ↓cl_isP, mL_le, lit_n, litL_n, mL_mI, mL_neg, mm_cl_s, mI_lt, mI_le, mI_eq, enc_at, enc_wr, enc_cp, mI_neg, mI_add, mI_sub, mI_mul, mI_ix, mm_ck_ok, mm_nz_ok, mm_bo_c, mm_bo_m0, mm_bo_m1, b01, Int.toNat_natCast, Int.reduceToNat, Int.reduceNeg, Int.reduceSub, Int.reduceAdd, Int.reduceMul, Int.reduceLT, Int.reduceLE, Int.reduceEq, ↓reduceIte, not_true, not_false_eq_true, not_true_eq_false, and_self, true_and, and_true, false_and, and_false, Decidable.not_not, stv1, stv2, stv3, stv4]
    rw [q1 NF (by omega)]
