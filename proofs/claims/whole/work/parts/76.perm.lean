/-- the reference -/
theorem p7M_L {K : Int32 → Mm → Aa} {z : Int32 → Mm → Aa} {n : Nat} {r : Nat → Nat} {τ : IM} (hn : n ≤ 6) (hr : ∀ k, k < n → τ 20 k = (r k : Int) ∧ r k < n) : ∀ (d N : Nat), d < n → d < N → mm_lk z (fX7_nextOrder_L7 K) N (mI ((d : Int) - 1)) (enc τ) = (match fdP r d with | none => K (mI (-1)) (enc τ) | some j => K (mI (j : Int)) (enc τ))
  | d, 0, _, h => absurd h (Nat.not_lt_zero d)
  | 0, N + 1, _, _ => by
    rw [show ((0 : Nat) : Int) - 1 = -1 from rfl, mm_lk_s, fX7_nextOrder_L7]
    simp (implicitDefEqProofs := false) (maxSteps := 1000000) (disch := omega) only [↓mm_lt_s, ↓cl_in, ↓cl_wi, ↓cl_has, ↓cl_isP, mL_le, lit_n, litL_n, mL_mI, mL_neg, mm_cl_s, mI_lt, mI_le, mI_eq, enc_at, enc_wr, enc_cp, mI_neg, mI_add, mI_sub, mI_mul, mI_ix, mm_ck_ok, mm_nz_ok, mm_bo_c, mm_bo_m0, mm_bo_m1, b01, Int.toNat_natCast, Int.reduceToNat, Int.reduceNeg, Int.reduceSub, Int.reduceAdd, Int.reduceMul, Int.reduceLT, Int.reduceLE, Int.reduceEq, ↓reduceIte, not_true, not_false_eq_true, not_true_eq_false, and_self, true_and, and_true, false_and, and_false, Decidable.not_not, stv1, stv2, stv3, stv4]
    rfl
  | d + 1, N + 1, hd, h2 => by
    obtain ⟨r1, r2⟩ := hr d (by omega)
    obtain ⟨s1, s2⟩ := hr (d + 1) hd
    have e0 : ((d + 1 : Nat) : Int) - 1 = (d : Int) := by omega
    have e1 : (d : Int) + 1 = ((d + 1 : Nat) : Int) := by omega
    have c1 : ¬ (d : Int) < 0 := by omega
    have em : (d : Int) + -1 = (d : Int) - 1 := by omega
    have e : fdP r (d + 1) = if r d ≤ r (d + 1) then some d else fdP r d := rfl
    rw [e, e0]
    by_cases c : r d ≤ r (d + 1)
    · have c' : (r d : Int) ≤ (r (d + 1) : Int) := by omega
      rw [if_pos c, mm_lk_s, fX7_nextOrder_L7]
      simp (implicitDefEqProofs := false) (maxSteps := 1000000) (disch := omega) only [c1, e1, r1, s1, c', ↓mm_lt_s, ↓cl_in, ↓cl_wi, ↓cl_has, ↓cl_isP, mL_le, lit_n, litL_n, mL_mI, mL_neg, mm_cl_s, mI_lt, mI_le, mI_eq, enc_at, enc_wr, enc_cp, mI_neg, mI_add, mI_sub, mI_mul, mI_ix, mm_ck_ok, mm_nz_ok, mm_bo_c, mm_bo_m0, mm_bo_m1, b01, Int.toNat_natCast, Int.reduceToNat, Int.reduceNeg, Int.reduceSub, Int.reduceAdd, Int.reduceMul, Int.reduceLT, Int.reduceLE, Int.reduceEq, ↓reduceIte, not_true, not_false_eq_true, not_true_eq_false, and_self, true_and, and_true, false_and, and_false, Decidable.not_not, stv1, stv2, stv3, stv4]
    · have c' : ¬ (r d : Int) ≤ (r (d + 1) : Int) := by omega
      rw [if_neg c, ← p7M_L (K := K) (z := z) hn hr d N (by omega) (by omega), mm_lk_s, fX7_nextOrder_L7]
      simp (implicitDefEqProofs := false) (maxSteps := 1000000) (disch := omega) only [c1, e1, r1, s1, c', em, ↓mm_lt_s, ↓cl_in, ↓cl_wi, ↓cl_has, ↓cl_isP, mL_le, lit_n, litL_n, mL_mI, mL_neg, mm_cl_s, mI_lt, mI_le, mI_eq, enc_at, enc_wr, enc_cp, mI_neg, mI_add, mI_sub, mI_mul, mI_ix, mm_ck_ok, mm_nz_ok, mm_bo_c, mm_bo_m0, mm_bo_m1, b01, Int.toNat_natCast, Int.reduceToNat, Int.reduceNeg, Int.reduceSub, Int.reduceAdd, Int.reduceMul, Int.reduceLT, Int.reduceLE, Int.reduceEq, ↓reduceIte, not_true, not_false_eq_true, not_true_eq_false, and_self, true_and, and_true, false_and, and_false, Decidable.not_not, stv1, stv2, stv3, stv4]
theorem p47M_L {K : Int32 → Mm → Aa} {z : Int32 → Mm → Aa} {n i : Nat} {r : Nat → Nat} {τ : IM} (hn : n ≤ 6) (hr : ∀ k, k < n → τ 20 k = (r k : Int) ∧ r k < n) (hi : r i ≤ r (i + 1)) : ∀ (d N : Nat), i < d → d < n → d < N → mm_lk z (fX7_nextOrder_L47 (mI i) K) N (mI d) (enc τ) = K (mI (fkP r i d)) (enc τ)
  | d, 0, _, _, h => absurd h (Nat.not_lt_zero d)
  | 0, N + 1, hd, _, _ => absurd hd (Nat.not_lt_zero i)
  | d + 1, N + 1, hd, hdn, h2 => by
    obtain ⟨r1, r2⟩ := hr i (by omega)
    obtain ⟨s1, s2⟩ := hr (d + 1) hdn
    have em : ((d + 1 : Nat) : Int) + -1 = (d : Int) := by omega
    have e : fkP r i (d + 1) = if r i ≤ r (d + 1) then d + 1 else fkP r i d := rfl
    rw [e]
    by_cases c : r i ≤ r (d + 1)
    · have c' : (r i : Int) ≤ (r (d + 1) : Int) := by omega
      rw [if_pos c, mm_lk_s, fX7_nextOrder_L47]
      simp (implicitDefEqProofs := false) (maxSteps := 1000000) (disch := omega) only [r1, s1, c', ↓mm_lt_s, ↓cl_in, ↓cl_wi, ↓cl_has, ↓cl_isP, mL_le, lit_n, litL_n, mL_mI, mL_neg, mm_cl_s, mI_lt, mI_le, mI_eq, enc_at, enc_wr, enc_cp, mI_neg, mI_add, mI_sub, mI_mul, mI_ix, mm_ck_ok, mm_nz_ok, mm_bo_c, mm_bo_m0, mm_bo_m1, b01, Int.toNat_natCast, Int.reduceToNat, Int.reduceNeg, Int.reduceSub, Int.reduceAdd, Int.reduceMul, Int.reduceLT, Int.reduceLE, Int.reduceEq, ↓reduceIte, not_true, not_false_eq_true, not_true_eq_false, and_self, true_and, and_true, false_and, and_false, Decidable.not_not, stv1, stv2, stv3, stv4]
    · have c' : ¬ (r i : Int) ≤ (r (d + 1) : Int) := by omega
      have : i ≠ d := fun x => c (x ▸ hi)
      rw [if_neg c, ← p47M_L (K := K) (z := z) hn hr hi d N (by omega) (by omega) (by omega), mm_lk_s, fX7_nextOrder_L47]
      simp (implicitDefEqProofs := false) (maxSteps := 1000000) (disch := omega) only [r1, s1, c', em, ↓mm_lt_s, ↓cl_in, ↓cl_wi, ↓cl_has, ↓cl_isP, mL_le, lit_n, litL_n, mL_mI, mL_neg, mm_cl_s, mI_lt, mI_le, mI_eq, enc_at, enc_wr, enc_cp, mI_neg, mI_add, mI_sub, mI_mul, mI_ix, mm_ck_ok, mm_nz_ok, mm_bo_c, mm_bo_m0, mm_bo_m1, b01, Int.toNat_natCast, Int.reduceToNat, Int.reduceNeg, Int.reduceSub, Int.reduceAdd, Int.reduceMul, Int.reduceLT, Int.reduceLE, Int.reduceEq, ↓reduceIte, not_true, not_false_eq_true, not_true_eq_false, and_self, true_and, and_true, false_and, and_false, Decidable.not_not, stv1, stv2, stv3, stv4]
theorem swp_iw {n a b : Nat} {r : Nat → Nat} {τ : IM} {c : Nat} (hr : ∀ k, k < n → τ c k = (r k : Int) ∧ r k < n) : ∀ k, k < n → iw (iw τ c a (r b)) c b (r a) c k = (swp r a b k : Int) := fun k hk => by
  unfold swp
  by_cases c : k = b
  · rw [if_pos c, iw_eq rfl c]
  · rw [if_neg c, iw_ne (by omega)]
    by_cases d : k = a
    · rw [if_pos d, iw_eq rfl d]
    · rw [if_neg d, iw_ne (by omega)]
      exact (hr k hk).1
theorem p107M_L {n : Nat} (hn : n ≤ 6) : ∀ (d a b : Nat) (τ : IM) (r : Nat → Nat), (b < a + d ∨ b ≤ a) → b < n → a ≤ 7 → (∀ k, k < n → τ 20 k = (r k : Int) ∧ r k < n) → ∃ τ' : IM, (∀ (N : Nat), d < N → ∀ (K : Mm → Aa) (z : Int32 → Int32 → Mm → Aa), mm_lk z (fX7_nextOrder_L107 K) N (mI a) (mI b) (enc τ) = K (enc τ')) ∧ (∀ k, k < n → τ' 20 k = (rvP d a b r k : Int) ∧ rvP d a b r k < n) ∧ ∀ p q, p ≠ 20 → τ' p q = τ p q := by
  intro d
  induction d with
  | zero =>
    intro a b τ r h hb ha hr
    refine ⟨τ, fun N hN K z => ?_, hr, fun _ _ _ => rfl⟩
    obtain ⟨N, rfl⟩ : ∃ M, N = M + 1 := ⟨N - 1, by omega⟩
    have c : (b : Int) ≤ (a : Int) := by omega
    rw [mm_lk_s, fX7_nextOrder_L107]
    simp (implicitDefEqProofs := false) (maxSteps := 1000000) (disch := omega) only [c, ↓mm_lt_s, ↓cl_in, ↓cl_wi, ↓cl_has, ↓cl_isP, mL_le, lit_n, litL_n, mL_mI, mL_neg, mm_cl_s, mI_lt, mI_le, mI_eq, enc_at, enc_wr, enc_cp, mI_neg, mI_add, mI_sub, mI_mul, mI_ix, mm_ck_ok, mm_nz_ok, mm_bo_c, mm_bo_m0, mm_bo_m1, b01, Int.toNat_natCast, Int.reduceToNat, Int.reduceNeg, Int.reduceSub, Int.reduceAdd, Int.reduceMul, Int.reduceLT, Int.reduceLE, Int.reduceEq, ↓reduceIte, not_true, not_false_eq_true, not_true_eq_false, and_self, true_and, and_true, false_and, and_false, Decidable.not_not, stv1, stv2, stv3, stv4]
  | succ d ih =>
    intro a b τ r h hb ha hr
    by_cases c : b ≤ a
    · have e : rvP (d + 1) a b r = r := if_pos c
      refine ⟨τ, fun N hN K z => ?_, by rw [e]; exact hr, fun _ _ _ => rfl⟩
      obtain ⟨N, rfl⟩ : ∃ M, N = M + 1 := ⟨N - 1, by omega⟩
      have c : (b : Int) ≤ (a : Int) := by omega
      rw [mm_lk_s, fX7_nextOrder_L107]
      simp (implicitDefEqProofs := false) (maxSteps := 1000000) (disch := omega) only [c, ↓mm_lt_s, ↓cl_in, ↓cl_wi, ↓cl_has, ↓cl_isP, mL_le, lit_n, litL_n, mL_mI, mL_neg, mm_cl_s, mI_lt, mI_le, mI_eq, enc_at, enc_wr, enc_cp, mI_neg, mI_add, mI_sub, mI_mul, mI_ix, mm_ck_ok, mm_nz_ok, mm_bo_c, mm_bo_m0, mm_bo_m1, b01, Int.toNat_natCast, Int.reduceToNat, Int.reduceNeg, Int.reduceSub, Int.reduceAdd, Int.reduceMul, Int.reduceLT, Int.reduceLE, Int.reduceEq, ↓reduceIte, not_true, not_false_eq_true, not_true_eq_false, and_self, true_and, and_true, false_and, and_false, Decidable.not_not, stv1, stv2, stv3, stv4]
    · have e : rvP (d + 1) a b r = rvP d (a + 1) (b - 1) (swp r a b) := if_neg c
      obtain ⟨r1, r2⟩ := hr a (by omega)
      obtain ⟨s1, s2⟩ := hr b hb
      obtain ⟨τ', q1, q2, q3⟩ := ih (a + 1) (b - 1) (iw (iw τ 20 a (r b)) 20 b (r a)) (swp r a b) (by omega) (by omega) (by omega) (fun k hk => ⟨swp_iw hr k hk, swp_lt (fun k hk => (hr k hk).2) (by omega) hb k hk⟩)
      refine ⟨τ', fun N hN K z => ?_, by rw [e]; exact q2, fun p q hp => by rw [q3 p q hp, iw_ne (by omega), iw_ne (by omega)]⟩
      obtain ⟨N, rfl⟩ : ∃ M, N = M + 1 := ⟨N - 1, by omega⟩
      have c' : ¬ (b : Int) ≤ (a : Int) := by omega
      have em : (b : Int) + -1 = ((b - 1 : Nat) : Int) := by omega
      rw [← q1 N (by omega) K z, mm_lk_s, fX7_nextOrder_L107]
      simp (implicitDefEqProofs := false) (maxSteps := 1000000) (disch := omega) only [c', r1, s1, em, cast_s, ↓mm_lt_s, ↓cl_in, ↓cl_wi, ↓cl_has, ↓cl_isP, mL_le, lit_n, litL_n, mL_mI, mL_neg, mm_cl_s, mI_lt, mI_le, mI_eq, enc_at, enc_wr, enc_cp, mI_neg, mI_add, mI_sub, mI_mul, mI_ix, mm_ck_ok, mm_nz_ok, mm_bo_c, mm_bo_m0, mm_bo_m1, b01, Int.toNat_natCast, Int.reduceToNat, Int.reduceNeg, Int.reduceSub, Int.reduceAdd, Int.reduceMul, Int.reduceLT, Int.reduceLE, Int.reduceEq, ↓reduceIte, not_true, not_false_eq_true, not_true_eq_false, and_self, true_and, and_true, false_and, and_false, Decidable.not_not, stv1, stv2, stv3, stv4]
theorem nxpM {n : Nat} {r : Nat → Nat} {τ : IM} (hn : 1 ≤ n ∧ n ≤ 6) (h29 : τ 0 29 = (n : Int)) (hr : ∀ k, k < n → τ 20 k = (r k : Int) ∧ r k < n) : (nxP n r = none ∧ fX7_nextOrder (enc τ) = some (mI 0, enc τ)) ∨ ∃ (r' : Nat → Nat) (τ' : IM), nxP n r = some r' ∧ fX7_nextOrder (enc τ) = some (mI 1, enc τ') ∧ (∀ k, k < n → τ' 20 k = (r' k : Int) ∧ r' k < n) ∧ ∀ a b, a ≠ 20 → τ' a b = τ a b := by
  have L := fun K z NF (hNF : n < NF) => p7M_L (K := K) (z := z) hn.2 hr (n - 1) NF (by omega) (by omega)
  have e2 : ((n - 1 : Nat) : Int) - 1 = (n : Int) - 2 := by omega
  rw [e2] at L
  unfold nxP
  cases hf : fdP r (n - 1) with
  | none =>
    rw [hf] at L
    refine Or.inl ⟨rfl, ?_⟩
    unfold fX7_nextOrder
    generalize hfu : mm_fu = NF; have hNF : 4096 ≤ NF := by rw [← hfu]; exact Nat.le_refl _
    simp (implicitDefEqProofs := false) (maxSteps := 1000000) (disch := omega) only [h29, ↓mm_lt_s, ↓cl_in, ↓cl_wi, ↓cl_has, ↓cl_isP, mL_le, lit_n, litL_n, mL_mI, mL_neg, mm_cl_s, mI_lt, mI_le, mI_eq, enc_at, enc_wr, enc_cp, mI_neg, mI_add, mI_sub, mI_mul, mI_ix, mm_ck_ok, mm_nz_ok, mm_bo_c, mm_bo_m0, mm_bo_m1, b01, Int.toNat_natCast, Int.reduceToNat, Int.reduceNeg, Int.reduceSub, Int.reduceAdd, Int.reduceMul, Int.reduceLT, Int.reduceLE, Int.reduceEq, ↓reduceIte, not_true, not_false_eq_true, not_true_eq_false, and_self, true_and, and_true, false_and, and_false, Decidable.not_not, stv1, stv2, stv3, stv4]
    rw [L _ _ NF (by omega)]
    simp (implicitDefEqProofs := false) (maxSteps := 1000000) (disch := omega) only [↓mm_lt_s, ↓cl_in, ↓cl_wi, ↓cl_has, ↓cl_isP, mL_le, lit_n, litL_n, mL_mI, mL_neg, mm_cl_s, mI_lt, mI_le, mI_eq, enc_at, enc_wr, enc_cp, mI_neg, mI_add, mI_sub, mI_mul, mI_ix, mm_ck_ok, mm_nz_ok, mm_bo_c, mm_bo_m0, mm_bo_m1, b01, Int.toNat_natCast, Int.reduceToNat, Int.reduceNeg, Int.reduceSub, Int.reduceAdd, Int.reduceMul, Int.reduceLT, Int.reduceLE, Int.reduceEq, ↓reduceIte, not_true, not_false_eq_true, not_true_eq_false, and_self, true_and, and_true, false_and, and_false, Decidable.not_not, stv1, stv2, stv3, stv4]
  | some i =>
    rw [hf] at L
    obtain ⟨i1, i2⟩ := fdP_le _ _ hf
    obtain ⟨k1, k2⟩ := fkP_rng i2 (n - 1) i1
    have M := fun K z NF (hNF : n < NF) => p47M_L (K := K) (z := z) (i := i) hn.2 hr i2 (n - 1) NF i1 (by omega) (by omega)
    generalize hkk : fkP r i (n - 1) = kk at *
    have lt1 := swp_lt (r := r) (n := n) (a := i) (b := kk) (fun k hk => (hr k hk).2) (by omega) (by omega)
    obtain ⟨r1, r2⟩ := hr i (by omega)
    obtain ⟨s1, s2⟩ := hr kk (by omega)
    obtain ⟨τ', q1, q2, q3⟩ := p107M_L hn.2 6 (i + 1) (n - 1) (iw (iw τ 20 i (r kk)) 20 kk (r i)) (swp r i kk) (by omega) (by omega) (by omega) (fun k hk => ⟨swp_iw hr k hk, lt1 k hk⟩)
    refine Or.inr ⟨_, τ', by rw [← hkk], ?_, q2, fun a b h => by rw [q3 a b h, iw_ne (by omega), iw_ne (by omega)]⟩
    have c1 : (0 : Int) ≤ (i : Int) := by omega
    have e1 : (n : Int) - 1 = ((n - 1 : Nat) : Int) := by omega
    have h01 : iw (iw τ 20 i (r kk)) 20 kk (r i) 0 29 = (n : Int) := by rw [iw_ne (by omega), iw_ne (by omega)]; exact h29
    unfold fX7_nextOrder
    generalize hfu : mm_fu = NF; have hNF : 4096 ≤ NF := by rw [← hfu]; exact Nat.le_refl _
    simp (implicitDefEqProofs := false) (maxSteps := 1000000) (disch := omega) only [h29, ↓mm_lt_s, ↓cl_in, ↓cl_wi, ↓cl_has, ↓cl_isP, mL_le, lit_n, litL_n, mL_mI, mL_neg, mm_cl_s, mI_lt, mI_le, mI_eq, enc_at, enc_wr, enc_cp, mI_neg, mI_add, mI_sub, mI_mul, mI_ix, mm_ck_ok, mm_nz_ok, mm_bo_c, mm_bo_m0, mm_bo_m1, b01, Int.toNat_natCast, Int.reduceToNat, Int.reduceNeg, Int.reduceSub, Int.reduceAdd, Int.reduceMul, Int.reduceLT, Int.reduceLE, Int.reduceEq, ↓reduceIte, not_true, not_false_eq_true, not_true_eq_false, and_self, true_and, and_true, false_and, and_false, Decidable.not_not, stv1, stv2, stv3, stv4]
    rw [L _ _ NF (by omega)]
    simp (implicitDefEqProofs := false) (maxSteps := 1000000) (disch := omega) only [c1, h29, e1, ↓mm_lt_s, ↓cl_in, ↓cl_wi, ↓cl_has, ↓cl_isP, mL_le, lit_n, litL_n, mL_mI, mL_neg, mm_cl_s, mI_lt, mI_le, mI_eq, enc_at, enc_wr, enc_cp, mI_neg, mI_add, mI_sub, mI_mul, mI_ix, mm_ck_ok, mm_nz_ok, mm_bo_c, mm_bo_m0, mm_bo_m1, b01, Int.toNat_natCast, Int.reduceToNat, Int.reduceNeg, Int.reduceSub, Int.reduceAdd, Int.reduceMul, Int.reduceLT, Int.reduceLE, Int.reduceEq, ↓reduceIte, not_true, not_false_eq_true, not_true_eq_false, and_self, true_and, and_true, false_and, and_false, Decidable.not_not, stv1, stv2, stv3, stv4]
    rw [M _ _ NF (by omega)]
    simp (implicitDefEqProofs := false) (maxSteps := 1000000) (disch := omega) only [r1, s1, h01, e1, cast_s, ↓mm_lt_s, ↓cl_in, ↓cl_wi, ↓cl_has, ↓cl_isP, mL_le, lit_n, litL_n, mL_mI, mL_neg, mm_cl_s, mI_lt, mI_le, mI_eq, enc_at, enc_wr, enc_cp, mI_neg, mI_add, mI_sub, mI_mul, mI_ix, mm_ck_ok, mm_nz_ok, mm_bo_c, mm_bo_m0, mm_bo_m1, b01, Int.toNat_natCast, Int.reduceToNat, Int.reduceNeg, Int.reduceSub, Int.reduceAdd, Int.reduceMul, Int.reduceLT, Int.reduceLE, Int.reduceEq, ↓reduceIte, not_true, not_false_eq_true, not_true_eq_false, and_self, true_and, and_true, false_and, and_false, Decidable.not_not, stv1, stv2, stv3, stv4]
    rw [q1 NF (by omega)]
theorem nxpR {σ τ : IM} {n : Nat} {r : Nat → Nat} (hn : 1 ≤ n ∧ n ≤ 6) (h0 : σ 44 0 = (n : Int)) (h29 : τ 0 29 = (n : Int)) (hr : ∀ k, k < n → σ 47 k = (r k : Int) ∧ τ 20 k = (r k : Int) ∧ r k < n) : (nxP n r = none ∧ fX1_makeNextRow (enc σ) = some (mI 0, enc σ) ∧ fX7_nextOrder (enc τ) = some (mI 0, enc τ)) ∨ ∃ (r' : Nat → Nat) (σ' τ' : IM), nxP n r = some r' ∧ fX1_makeNextRow (enc σ) = some (mI 1, enc σ') ∧ fX7_nextOrder (enc τ) = some (mI 1, enc τ') ∧ (∀ k, k < n → σ' 47 k = (r' k : Int) ∧ τ' 20 k = (r' k : Int)) ∧ (∀ a b, a ≠ 47 → σ' a b = σ a b) ∧ (∀ a b, a ≠ 20 → τ' a b = τ a b) := by
  rcases nxpX hn h0 (fun k hk => ⟨(hr k hk).1, (hr k hk).2.2⟩) with ⟨x1, x2⟩ | ⟨r1, σ', x1, x2, x3, x4⟩
  · rcases nxpM hn h29 (fun k hk => (hr k hk).2) with ⟨y1, y2⟩ | ⟨r2, τ', y1, -⟩
    · exact Or.inl ⟨x1, x2, y2⟩
    · rw [x1] at y1
      cases y1
  · rcases nxpM hn h29 (fun k hk => (hr k hk).2) with ⟨y1, y2⟩ | ⟨r2, τ', y1, y2, y3, y4⟩
    · rw [x1] at y1
      cases y1
    · rw [x1] at y1
      cases y1
      exact Or.inr ⟨r1, σ', τ', x1, x2, y2, fun k hk => ⟨(x3 k hk).1, (y3 k hk).1⟩, x4, y4⟩
/-- rows are orders -/
def ivF (r : Nat → Nat) (k : Nat) : Nat → Nat
  | 0 => 0
  | d + 1 => if r d = k then d else ivF r k d
def okP (n : Nat) (r : Nat → Nat) : Bool := ((List.range n).map r).isPerm (List.range n) && (List.range n).all (fun j => decide (r j < n) && decide (ivF r (r j) n = j) && decide (ivF r j n < n) && decide (r (ivF r j n) = j))
theorem ends_P : ∀ n, n < 7 → 1 ≤ n → ends (nxP n) (okP n) 1000 (en6 (fun k => k)) = true := by decide +kernel
theorem okP_iv {n : Nat} {r : Nat → Nat} (h : okP n r = true) : ∀ j, j < n → r j < n ∧ ivF r (r j) n = j ∧ ivF r j n < n ∧ r (ivF r j n) = j := fun j hj => by
  unfold okP at h
  rw [Bool.and_eq_true, List.all_eq_true] at h
  have := h.2 j (List.mem_range.2 hj)
  rw [Bool.and_eq_true, Bool.and_eq_true, Bool.and_eq_true, decide_eq_true_iff, decide_eq_true_iff, decide_eq_true_iff, decide_eq_true_iff] at this
  exact ⟨this.1.1.1, this.1.1.2, this.1.2, this.2⟩
theorem cN_list {p : Nat → Prop} [DecidablePred p] : ∀ d, cN p d = (List.range d).countP (fun k => decide (p k))
  | 0 => rfl
  | d + 1 => by
    rw [cN_s, cN_list d, List.range_succ, List.countP_append, List.countP_singleton]
    by_cases c : p d
    · rw [if_pos c, if_pos (decide_eq_true c)]
    · rw [if_neg c, if_neg (fun x => c (of_decide_eq_true x))]
theorem okP_cN {n : Nat} {r : Nat → Nat} (h : okP n r = true) {p : Nat → Prop} [DecidablePred p] : cN (fun j => p (r j)) n = cN p n := by
  unfold okP at h
  rw [Bool.and_eq_true] at h
  have P := List.isPerm_iff.1 h.1
  rw [cN_list, cN_list, ← P.countP_eq (fun k => decide (p k)), List.countP_map]
  rfl
