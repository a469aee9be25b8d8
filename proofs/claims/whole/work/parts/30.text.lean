theorem iw_self {σ : IM} {k j : Nat} {v : Int} (h : σ k j = v) : iw σ k j v = σ := by
  funext a b
  unfold iw
  split
  · rename_i e
    rw [e.1, e.2, h]
  · rfl
theorem iw_iw {σ : IM} {k j : Nat} {v w : Int} : iw (iw σ k j v) k j w = iw σ k j w := by
  funext a b
  unfold iw
  split <;> rfl
theorem iw_sw {σ : IM} {k j k' j' : Nat} {v w : Int} (h : ¬ (k = k' ∧ j = j')) : iw (iw σ k j v) k' j' w = iw (iw σ k' j' w) k j v := by
  funext a b
  unfold iw
  by_cases e1 : a = k' ∧ b = j'
  · rw [if_pos e1, if_neg (by omega), if_pos e1]
  · rw [if_neg e1]
    by_cases e2 : a = k ∧ b = j
    · rw [if_pos e2, if_pos e2]
    · rw [if_neg e2, if_neg e2, if_neg e1]
/-- both tapes alike, both read at pl -/
def TP (σ τ : IM) (n pl : Nat) : Prop := (σ 27 0 = (n : Int) ∧ τ 0 5 = (n : Int) ∧ σ 27 1 = (pl : Int) ∧ τ 0 6 = (pl : Int) ∧ pl ≤ n ∧ n ≤ 80) ∧ ∀ i, i < n → σ 28 i = τ 3 i ∧ 32 ≤ τ 3 i ∧ τ 3 i ≤ 126
theorem TP.to {σ τ : IM} {n pl : Nat} (h : TP σ τ n pl) {q : Nat} (hq : q ≤ n) : TP (iw σ 27 1 q) (iw τ 0 6 q) n q := by
  obtain ⟨⟨a1, a2, a3, a4, a5, a6⟩, a7⟩ := h
  refine ⟨⟨by rw [iw_ne (by omega)]; exact a1, by rw [iw_ne (by omega)]; exact a2, iw_eq rfl rfl, iw_eq rfl rfl, hq, a6⟩, fun i hi => ?_⟩
  rw [iw_ne (by omega), iw_ne (by omega)]
  exact a7 i hi
theorem TP.cong {σ τ σ' τ' : IM} {n pl : Nat} (h : TP σ τ n pl) (h1 : ∀ k j, k = 27 ∨ k = 28 → σ' k j = σ k j) (h2 : ∀ j, τ' 3 j = τ 3 j) (h3 : τ' 0 5 = τ 0 5) (h4 : τ' 0 6 = τ 0 6) : TP σ' τ' n pl := by
  obtain ⟨⟨a1, a2, a3, a4, a5, a6⟩, a7⟩ := h
  refine ⟨⟨by rw [h1 _ _ (by omega)]; exact a1, by rw [h3]; exact a2, by rw [h1 _ _ (by omega)]; exact a3, by rw [h4]; exact a4, a5, a6⟩, fun i hi => ?_⟩
  rw [h1 _ _ (by omega), h2]
  exact a7 i hi
/-- the place is where nothing blank stands -/
def atB (τ : IM) (n q : Nat) : Prop := q = n ∨ (q < n ∧ τ 3 q ≠ 32)
theorem skip_ex (τ : IM) (n : Nat) : ∀ (d pl : Nat), pl + d = n → ∃ q, pl ≤ q ∧ q ≤ n ∧ atB τ n q ∧ ∀ i, pl ≤ i → i < q → τ 3 i = 32
  | 0, pl, h => ⟨pl, Nat.le_refl _, by omega, Or.inl (by omega), fun i h1 h2 => by omega⟩
  | d + 1, pl, h => by
    by_cases c : τ 3 pl = 32
    · obtain ⟨q, q1, q2, q3, q4⟩ := skip_ex τ n d (pl + 1) (by omega)
      refine ⟨q, by omega, q2, q3, fun i h1 h2 => ?_⟩
      by_cases e : i = pl
      · subst e; exact c
      · exact q4 i (by omega) h2
    · exact ⟨pl, Nat.le_refl _, by omega, Or.inr ⟨by omega, c⟩, fun i h1 h2 => by omega⟩
theorem peekX_L {K : Mm → Aa} {z : Mm → Aa} {τ : IM} {n q : Nat} (hq : q ≤ n) (hb : atB τ n q) : ∀ (d pl N : Nat) (σ : IM), pl + d = q → d < N → TP σ τ n pl → (∀ i, pl ≤ i → i < q → τ 3 i = 32) → True → mm_lk z (fX4_peek_L0 K) N (enc σ) = K (enc (iw σ 27 1 q))
  | d, pl, 0, σ, _, h, _, _, _ => absurd h (Nat.not_lt_zero d)
  | 0, pl, N + 1, σ, h, _, ht, _, _ => by
    obtain ⟨⟨a1, a2, a3, a4, a5, a6⟩, a7⟩ := ht
    have e : pl = q := by omega
    subst e
    rw [mm_lk_s, fX4_peek_L0, iw_self a3]
    simp (implicitDefEqProofs := false) (maxSteps := 1000000) (disch := omega) only [a1, a3, ↓mm_lt_s, ↓cl_in, ↓cl_wi, ↓cl_has, ↓cl_isP, mL_le, lit_n, litL_n, mL_mI, mL_neg, mm_cl_s, mI_lt, mI_le, mI_eq, enc_at, enc_wr, enc_cp, mI_neg, mI_add, mI_sub, mI_mul, mI_ix, mm_ck_ok, mm_nz_ok, mm_bo_c, mm_bo_m0, mm_bo_m1, b01, Int.toNat_natCast, Int.reduceToNat, Int.reduceNeg, Int.reduceSub, Int.reduceAdd, Int.reduceMul, Int.reduceLT, Int.reduceLE, Int.reduceEq, ↓reduceIte, not_true, not_false_eq_true, not_true_eq_false, and_self, true_and, and_true, false_and, and_false, Decidable.not_not, stv1, stv2, stv3, stv4]
    rcases hb with hb | ⟨hb, hb2⟩
    · repeat (first | rw [if_pos (by omega)] | rw [if_neg (by omega)])
    · have := a7 pl hb
      simp (implicitDefEqProofs := false) (maxSteps := 1000000) (disch := omega) only [this.1, ↓mm_lt_s, ↓cl_in, ↓cl_wi, ↓cl_has, ↓cl_isP, mL_le, lit_n, litL_n, mL_mI, mL_neg, mm_cl_s, mI_lt, mI_le, mI_eq, enc_at, enc_wr, enc_cp, mI_neg, mI_add, mI_sub, mI_mul, mI_ix, mm_ck_ok, mm_nz_ok, mm_bo_c, mm_bo_m0, mm_bo_m1, b01, Int.toNat_natCast, Int.reduceToNat, Int.reduceNeg, Int.reduceSub, Int.reduceAdd, Int.reduceMul, Int.reduceLT, Int.reduceLE, Int.reduceEq, ↓reduceIte, not_true, not_false_eq_true, not_true_eq_false, and_self, true_and, and_true, false_and, and_false, Decidable.not_not, stv1, stv2, stv3, stv4]
      repeat (first | rw [if_pos (by omega)] | rw [if_neg (by omega)])
  | d + 1, pl, N + 1, σ, h, h2, ht, hs, _ => by
    obtain ⟨⟨a1, a2, a3, a4, a5, a6⟩, a7⟩ := ht
    have b1 := a7 pl (by omega)
    have b2 := hs pl (by omega) (by omega)
    rw [mm_lk_s, fX4_peek_L0]
    simp (implicitDefEqProofs := false) (maxSteps := 1000000) (disch := omega) only [a1, a3, b1.1, b2, cast_s, ↓mm_lt_s, ↓cl_in, ↓cl_wi, ↓cl_has, ↓cl_isP, mL_le, lit_n, litL_n, mL_mI, mL_neg, mm_cl_s, mI_lt, mI_le, mI_eq, enc_at, enc_wr, enc_cp, mI_neg, mI_add, mI_sub, mI_mul, mI_ix, mm_ck_ok, mm_nz_ok, mm_bo_c, mm_bo_m0, mm_bo_m1, b01, Int.toNat_natCast, Int.reduceToNat, Int.reduceNeg, Int.reduceSub, Int.reduceAdd, Int.reduceMul, Int.reduceLT, Int.reduceLE, Int.reduceEq, ↓reduceIte, not_true, not_false_eq_true, not_true_eq_false, and_self, true_and, and_true, false_and, and_false, Decidable.not_not, stv1, stv2, stv3, stv4]
    repeat (first | rw [if_pos (by omega)] | rw [if_neg (by omega)])
    have T2 : TP (iw σ 27 1 ((pl + 1 : Nat) : Int)) τ n pl → True := fun _ => trivial
    have R : TP (iw σ 27 1 ((pl + 1 : Nat) : Int)) (iw τ 0 6 ((pl + 1 : Nat) : Int)) n (pl + 1) := TP.to ⟨⟨a1, a2, a3, a4, a5, a6⟩, a7⟩ (by omega)
    have hb' : atB (iw τ 0 6 ((pl + 1 : Nat) : Int)) n q := by
      unfold atB; rw [iw_ne (by omega)]; exact hb
    rw [peekX_L hq hb' d (pl + 1) N _ (by omega) (by omega) R (fun i h3 h4 => by rw [iw_ne (by omega)]; exact hs i (by omega) h4) trivial, iw_iw]
theorem peekM_L {K : Mm → Aa} {z : Mm → Aa} {n q : Nat} (hq : q ≤ n) : ∀ (d pl N : Nat) (σ τ : IM), pl + d = q → d < N → TP σ τ n pl → atB τ n q → (∀ i, pl ≤ i → i < q → τ 3 i = 32) → mm_lk z (fX7_nextByte_L0 K) N (enc τ) = K (enc (iw τ 0 6 q))
  | d, pl, 0, σ, τ, _, h, _, _, _ => absurd h (Nat.not_lt_zero d)
  | 0, pl, N + 1, σ, τ, h, _, ht, hb, _ => by
    obtain ⟨⟨a1, a2, a3, a4, a5, a6⟩, a7⟩ := ht
    have e : pl = q := by omega
    subst e
    rw [mm_lk_s, fX7_nextByte_L0, iw_self a4]
    simp (implicitDefEqProofs := false) (maxSteps := 1000000) (disch := omega) only [a2, a4, ↓mm_lt_s, ↓cl_in, ↓cl_wi, ↓cl_has, ↓cl_isP, mL_le, lit_n, litL_n, mL_mI, mL_neg, mm_cl_s, mI_lt, mI_le, mI_eq, enc_at, enc_wr, enc_cp, mI_neg, mI_add, mI_sub, mI_mul, mI_ix, mm_ck_ok, mm_nz_ok, mm_bo_c, mm_bo_m0, mm_bo_m1, b01, Int.toNat_natCast, Int.reduceToNat, Int.reduceNeg, Int.reduceSub, Int.reduceAdd, Int.reduceMul, Int.reduceLT, Int.reduceLE, Int.reduceEq, ↓reduceIte, not_true, not_false_eq_true, not_true_eq_false, and_self, true_and, and_true, false_and, and_false, Decidable.not_not, stv1, stv2, stv3, stv4]
    rcases hb with hb | ⟨hb, hb2⟩
    · repeat (first | rw [if_pos (by omega)] | rw [if_neg (by omega)])
    · have := a7 pl hb
      simp (implicitDefEqProofs := false) (maxSteps := 1000000) (disch := omega) only [↓mm_lt_s, ↓cl_in, ↓cl_wi, ↓cl_has, ↓cl_isP, mL_le, lit_n, litL_n, mL_mI, mL_neg, mm_cl_s, mI_lt, mI_le, mI_eq, enc_at, enc_wr, enc_cp, mI_neg, mI_add, mI_sub, mI_mul, mI_ix, mm_ck_ok, mm_nz_ok, mm_bo_c, mm_bo_m0, mm_bo_m1, b01, Int.toNat_natCast, Int.reduceToNat, Int.reduceNeg, Int.reduceSub, Int.reduceAdd, Int.reduceMul, Int.reduceLT, Int.reduceLE, Int.reduceEq, ↓reduceIte, not_true, not_false_eq_true, not_true_eq_false, and_self, true_and, and_true, false_and, and_false, Decidable.not_not, stv1, stv2, stv3, stv4]
      repeat (first | rw [if_pos (by omega)] | rw [if_neg (by omega)])
  | d + 1, pl, N + 1, σ, τ, h, h2, ht, hb, hs => by
    obtain ⟨⟨a1, a2, a3, a4, a5, a6⟩, a7⟩ := ht
    have b1 := a7 pl (by omega)
    have b2 := hs pl (by omega) (by omega)
    rw [mm_lk_s, fX7_nextByte_L0]
    simp (implicitDefEqProofs := false) (maxSteps := 1000000) (disch := omega) only [a2, a4, b2, cast_s, ↓mm_lt_s, ↓cl_in, ↓cl_wi, ↓cl_has, ↓cl_isP, mL_le, lit_n, litL_n, mL_mI, mL_neg, mm_cl_s, mI_lt, mI_le, mI_eq, enc_at, enc_wr, enc_cp, mI_neg, mI_add, mI_sub, mI_mul, mI_ix, mm_ck_ok, mm_nz_ok, mm_bo_c, mm_bo_m0, mm_bo_m1, b01, Int.toNat_natCast, Int.reduceToNat, Int.reduceNeg, Int.reduceSub, Int.reduceAdd, Int.reduceMul, Int.reduceLT, Int.reduceLE, Int.reduceEq, ↓reduceIte, not_true, not_false_eq_true, not_true_eq_false, and_self, true_and, and_true, false_and, and_false, Decidable.not_not, stv1, stv2, stv3, stv4]
    repeat (first | rw [if_pos (by omega)] | rw [if_neg (by omega)])
    have R : TP (iw σ 27 1 ((pl + 1 : Nat) : Int)) (iw τ 0 6 ((pl + 1 : Nat) : Int)) n (pl + 1) := TP.to ⟨⟨a1, a2, a3, a4, a5, a6⟩, a7⟩ (by omega)
    have hb' : atB (iw τ 0 6 ((pl + 1 : Nat) : Int)) n q := by
      unfold atB; rw [iw_ne (by omega)]; exact hb
    rw [peekM_L hq d (pl + 1) N _ _ (by omega) (by omega) R hb' (fun i h3 h4 => by rw [iw_ne (by omega)]; exact hs i (by omega) h4), iw_iw]
def nxB (τ : IM) (n q : Nat) : Int := if q < n then τ 3 q else -1
theorem peekP {σ τ : IM} {n pl : Nat} (h : TP σ τ n pl) : ∃ q : Nat, pl ≤ q ∧ q ≤ n ∧ atB τ n q ∧ fX4_peek (enc σ) = some (mI (nxB τ n q), enc (iw σ 27 1 q)) ∧ fX7_nextByte (enc τ) = some (mI (nxB τ n q), enc (iw τ 0 6 q)) ∧ (atB τ n pl → q = pl) := by
  obtain ⟨⟨a1, a2, a3, a4, a5, a6⟩, a7⟩ := id h
  obtain ⟨q, q1, q2, q3, q4⟩ := skip_ex τ n (n - pl) pl (by omega)
  refine ⟨q, q1, q2, q3, ?_, ?_, fun hb => ?_⟩
  · unfold fX4_peek
    generalize hfu : mm_fu = NF; have hNF : 4096 ≤ NF := by rw [← hfu]; exact Nat.le_refl _
    simp (implicitDefEqProofs := false) (maxSteps := 1000000) (disch := omega) only [↓mm_lt_s, ↓cl_in, ↓cl_wi, ↓cl_has, ↓cl_isP, mL_le, lit_n, litL_n, mL_mI, mL_neg, mm_cl_s, mI_lt, mI_le, mI_eq, enc_at, enc_wr, enc_cp, mI_neg, mI_add, mI_sub, mI_mul, mI_ix, mm_ck_ok, mm_nz_ok, mm_bo_c, mm_bo_m0, mm_bo_m1, b01, Int.toNat_natCast, Int.reduceToNat, Int.reduceNeg, Int.reduceSub, Int.reduceAdd, Int.reduceMul, Int.reduceLT, Int.reduceLE, Int.reduceEq, ↓reduceIte, not_true, not_false_eq_true, not_true_eq_false, and_self, true_and, and_true, false_and, and_false, Decidable.not_not, stv1, stv2, stv3, stv4]
    rw [peekX_L q2 q3 (q - pl) pl NF σ (by omega) (by omega) h q4 trivial]
    have e0 : iw σ 27 1 (q : Int) 27 0 = (n : Int) := by rw [iw_ne (by omega)]; exact a1
    have e1 : iw σ 27 1 (q : Int) 27 1 = (q : Int) := iw_eq rfl rfl
    have e2 : iw σ 27 1 (q : Int) 28 q = σ 28 q := iw_ne (by omega)
    simp (implicitDefEqProofs := false) (maxSteps := 1000000) (disch := omega) only [e0, e1, e2, ↓mm_lt_s, ↓cl_in, ↓cl_wi, ↓cl_has, ↓cl_isP, mL_le, lit_n, litL_n, mL_mI, mL_neg, mm_cl_s, mI_lt, mI_le, mI_eq, enc_at, enc_wr, enc_cp, mI_neg, mI_add, mI_sub, mI_mul, mI_ix, mm_ck_ok, mm_nz_ok, mm_bo_c, mm_bo_m0, mm_bo_m1, b01, Int.toNat_natCast, Int.reduceToNat, Int.reduceNeg, Int.reduceSub, Int.reduceAdd, Int.reduceMul, Int.reduceLT, Int.reduceLE, Int.reduceEq, ↓reduceIte, not_true, not_false_eq_true, not_true_eq_false, and_self, true_and, and_true, false_and, and_false, Decidable.not_not, stv1, stv2, stv3, stv4]
    unfold nxB
    by_cases c : q < n
    · simp (implicitDefEqProofs := false) (maxSteps := 1000000) (disch := omega) only [(a7 q c).1, ↓mm_lt_s, ↓cl_in, ↓cl_wi, ↓cl_has, ↓cl_isP, mL_le, lit_n, litL_n, mL_mI, mL_neg, mm_cl_s, mI_lt, mI_le, mI_eq, enc_at, enc_wr, enc_cp, mI_neg, mI_add, mI_sub, mI_mul, mI_ix, mm_ck_ok, mm_nz_ok, mm_bo_c, mm_bo_m0, mm_bo_m1, b01, Int.toNat_natCast, Int.reduceToNat, Int.reduceNeg, Int.reduceSub, Int.reduceAdd, Int.reduceMul, Int.reduceLT, Int.reduceLE, Int.reduceEq, ↓reduceIte, not_true, not_false_eq_true, not_true_eq_false, and_self, true_and, and_true, false_and, and_false, Decidable.not_not, stv1, stv2, stv3, stv4]
      repeat (first | rw [if_pos (by omega)] | rw [if_neg (by omega)])
    · repeat (first | rw [if_pos (by omega)] | rw [if_neg (by omega)])
  · unfold fX7_nextByte
    generalize hfu : mm_fu = NF; have hNF : 4096 ≤ NF := by rw [← hfu]; exact Nat.le_refl _
    simp (implicitDefEqProofs := false) (maxSteps := 1000000) (disch := omega) only [↓mm_lt_s, ↓cl_in, ↓cl_wi, ↓cl_has, ↓cl_isP, mL_le, lit_n, litL_n, mL_mI, mL_neg, mm_cl_s, mI_lt, mI_le, mI_eq, enc_at, enc_wr, enc_cp, mI_neg, mI_add, mI_sub, mI_mul, mI_ix, mm_ck_ok, mm_nz_ok, mm_bo_c, mm_bo_m0, mm_bo_m1, b01, Int.toNat_natCast, Int.reduceToNat, Int.reduceNeg, Int.reduceSub, Int.reduceAdd, Int.reduceMul, Int.reduceLT, Int.reduceLE, Int.reduceEq, ↓reduceIte, not_true, not_false_eq_true, not_true_eq_false, and_self, true_and, and_true, false_and, and_false, Decidable.not_not, stv1, stv2, stv3, stv4]
    rw [peekM_L q2 (q - pl) pl NF σ τ (by omega) (by omega) h q3 q4]
    have e0 : iw τ 0 6 (q : Int) 0 5 = (n : Int) := by rw [iw_ne (by omega)]; exact a2
    have e1 : iw τ 0 6 (q : Int) 0 6 = (q : Int) := iw_eq rfl rfl
    have e2 : iw τ 0 6 (q : Int) 3 q = τ 3 q := iw_ne (by omega)
    simp (implicitDefEqProofs := false) (maxSteps := 1000000) (disch := omega) only [e0, e1, e2, ↓mm_lt_s, ↓cl_in, ↓cl_wi, ↓cl_has, ↓cl_isP, mL_le, lit_n, litL_n, mL_mI, mL_neg, mm_cl_s, mI_lt, mI_le, mI_eq, enc_at, enc_wr, enc_cp, mI_neg, mI_add, mI_sub, mI_mul, mI_ix, mm_ck_ok, mm_nz_ok, mm_bo_c, mm_bo_m0, mm_bo_m1, b01, Int.toNat_natCast, Int.reduceToNat, Int.reduceNeg, Int.reduceSub, Int.reduceAdd, Int.reduceMul, Int.reduceLT, Int.reduceLE, Int.reduceEq, ↓reduceIte, not_true, not_false_eq_true, not_true_eq_false, and_self, true_and, and_true, false_and, and_false, Decidable.not_not, stv1, stv2, stv3, stv4]
    unfold nxB
    by_cases c : q < n
    · repeat (first | rw [if_pos (by omega)] | rw [if_neg (by omega)])
    · repeat (first | rw [if_pos (by omega)] | rw [if_neg (by omega)])
  · by_cases e : q = pl
    · exact e
    · have := q4 pl (Nat.le_refl _) (by omega)
      rcases hb with hb | hb
      · omega
      · exact absurd this hb.2
/-! numbers -/
def isD (τ : IM) (n i : Nat) : Prop := i < n ∧ 48 ≤ τ 3 i ∧ τ 3 i ≤ 57
def relV (v w : Int) : Prop := (v = w ∧ 0 ≤ w ∧ w ≤ 9999) ∨ (999 < v ∧ v ≤ 100000 ∧ 999 < w ∧ w ≤ 9999)
theorem digs {n : Nat} : ∀ (d pl : Nat) (σ τ : IM) (v w : Int), pl + d = n → TP σ τ n pl → relV v w → ∃ (q : Nat) (v' w' : Int), pl ≤ q ∧ q ≤ n ∧ relV v' w' ∧ (∀ (N : Nat), d < N → ∀ (K z : Int32 → Mm → Aa), mm_lk z (fX4_readNumber_L13 K) N (mI v) (enc σ) = K (mI v') (enc (iw σ 27 1 q))) ∧ (∀ (N : Nat), d < N → ∀ (K z : Int32 → Mm → Aa), mm_lk z (fX7_readNumber_L13 K) N (mI w) (enc τ) = K (mI w') (enc (iw τ 0 6 q)))
  | 0, pl, σ, τ, v, w, h, ht, hr => by
    obtain ⟨⟨a1, a2, a3, a4, a5, a6⟩, a7⟩ := ht
    refine ⟨pl, v, w, Nat.le_refl _, by omega, hr, fun N hN K z => ?_, fun N hN K z => ?_⟩
    · obtain ⟨N, rfl⟩ : ∃ M, N = M + 1 := ⟨N - 1, by omega⟩
      rw [mm_lk_s, fX4_readNumber_L13, iw_self a3]
      simp (implicitDefEqProofs := false) (maxSteps := 1000000) (disch := omega) only [a1, a3, ↓mm_lt_s, ↓cl_in, ↓cl_wi, ↓cl_has, ↓cl_isP, mL_le, lit_n, litL_n, mL_mI, mL_neg, mm_cl_s, mI_lt, mI_le, mI_eq, enc_at, enc_wr, enc_cp, mI_neg, mI_add, mI_sub, mI_mul, mI_ix, mm_ck_ok, mm_nz_ok, mm_bo_c, mm_bo_m0, mm_bo_m1, b01, Int.toNat_natCast, Int.reduceToNat, Int.reduceNeg, Int.reduceSub, Int.reduceAdd, Int.reduceMul, Int.reduceLT, Int.reduceLE, Int.reduceEq, ↓reduceIte, not_true, not_false_eq_true, not_true_eq_false, and_self, true_and, and_true, false_and, and_false, Decidable.not_not, stv1, stv2, stv3, stv4]
      repeat (first | rw [if_pos (by omega)] | rw [if_neg (by omega)])
    · obtain ⟨N, rfl⟩ : ∃ M, N = M + 1 := ⟨N - 1, by omega⟩
      rw [mm_lk_s, fX7_readNumber_L13, iw_self a4]
      simp (implicitDefEqProofs := false) (maxSteps := 1000000) (disch := omega) only [a2, a4, ↓mm_lt_s, ↓cl_in, ↓cl_wi, ↓cl_has, ↓cl_isP, mL_le, lit_n, litL_n, mL_mI, mL_neg, mm_cl_s, mI_lt, mI_le, mI_eq, enc_at, enc_wr, enc_cp, mI_neg, mI_add, mI_sub, mI_mul, mI_ix, mm_ck_ok, mm_nz_ok, mm_bo_c, mm_bo_m0, mm_bo_m1, b01, Int.toNat_natCast, Int.reduceToNat, Int.reduceNeg, Int.reduceSub, Int.reduceAdd, Int.reduceMul, Int.reduceLT, Int.reduceLE, Int.reduceEq, ↓reduceIte, not_true, not_false_eq_true, not_true_eq_false, and_self, true_and, and_true, false_and, and_false, Decidable.not_not, stv1, stv2, stv3, stv4]
      repeat (first | rw [if_pos (by omega)] | rw [if_neg (by omega)])
  | d + 1, pl, σ, τ, v, w, h, ht, hr => by
    obtain ⟨⟨a1, a2, a3, a4, a5, a6⟩, a7⟩ := id ht
    have b1 := a7 pl (by omega)
    by_cases c : 48 ≤ τ 3 pl ∧ τ 3 pl ≤ 57
    · have R : TP (iw σ 27 1 ((pl + 1 : Nat) : Int)) (iw τ 0 6 ((pl + 1 : Nat) : Int)) n (pl + 1) := TP.to ht (by omega)
      have hv : -1 ≤ v ∧ v ≤ 100000 ∧ 0 ≤ w ∧ w ≤ 9999 := by unfold relV at hr; omega
      obtain ⟨q, v', w', q1, q2, q3, q7, q8⟩ := digs d (pl + 1) _ _ (if 100000 < v * 10 + τ 3 pl - 48 then 100000 else v * 10 + τ 3 pl - 48) (if w ≤ 999 then 10 * w + τ 3 pl - 48 else w) (by omega) R (by
        unfold relV at hr ⊢
        split <;> split <;> omega)
      refine ⟨q, v', w', by omega, q2, q3, fun N hN K z => ?_, fun N hN K z => ?_⟩
      · obtain ⟨N, rfl⟩ : ∃ M, N = M + 1 := ⟨N - 1, by omega⟩
        have q7 := q7 N (by omega) K z
        rw [iw_iw] at q7
        rw [mm_lk_s, fX4_readNumber_L13]
        simp (implicitDefEqProofs := false) (maxSteps := 1000000) (disch := omega) only [a1, a3, b1.1, cast_s, ↓mm_lt_s, ↓cl_in, ↓cl_wi, ↓cl_has, ↓cl_isP, mL_le, lit_n, litL_n, mL_mI, mL_neg, mm_cl_s, mI_lt, mI_le, mI_eq, enc_at, enc_wr, enc_cp, mI_neg, mI_add, mI_sub, mI_mul, mI_ix, mm_ck_ok, mm_nz_ok, mm_bo_c, mm_bo_m0, mm_bo_m1, b01, Int.toNat_natCast, Int.reduceToNat, Int.reduceNeg, Int.reduceSub, Int.reduceAdd, Int.reduceMul, Int.reduceLT, Int.reduceLE, Int.reduceEq, ↓reduceIte, not_true, not_false_eq_true, not_true_eq_false, and_self, true_and, and_true, false_and, and_false, Decidable.not_not, stv1, stv2, stv3, stv4]
        repeat (first | rw [if_pos (by omega)] | rw [if_neg (by omega)])
        rw [← q7]
        congr 1
        by_cases c2 : 100000 < v * 10 + τ 3 pl - 48
        · rw [if_pos c2, if_pos c2]
        · rw [if_neg c2, if_neg c2]
      · obtain ⟨N, rfl⟩ : ∃ M, N = M + 1 := ⟨N - 1, by omega⟩
        have q8 := q8 N (by omega) K z
        rw [iw_iw] at q8
        rw [mm_lk_s, fX7_readNumber_L13]
        simp (implicitDefEqProofs := false) (maxSteps := 1000000) (disch := omega) only [a2, a4, cast_s, ↓mm_lt_s, ↓cl_in, ↓cl_wi, ↓cl_has, ↓cl_isP, mL_le, lit_n, litL_n, mL_mI, mL_neg, mm_cl_s, mI_lt, mI_le, mI_eq, enc_at, enc_wr, enc_cp, mI_neg, mI_add, mI_sub, mI_mul, mI_ix, mm_ck_ok, mm_nz_ok, mm_bo_c, mm_bo_m0, mm_bo_m1, b01, Int.toNat_natCast, Int.reduceToNat, Int.reduceNeg, Int.reduceSub, Int.reduceAdd, Int.reduceMul, Int.reduceLT, Int.reduceLE, Int.reduceEq, ↓reduceIte, not_true, not_false_eq_true, not_true_eq_false, and_self, true_and, and_true, false_and, and_false, Decidable.not_not, stv1, stv2, stv3, stv4]
        repeat (first | rw [if_pos (by omega)] | rw [if_neg (by omega)])
        rw [← q8]
        by_cases c2 : w ≤ 999
        · rw [if_pos c2, if_pos c2]
        · rw [if_neg c2, if_neg c2]
    · refine ⟨pl, v, w, Nat.le_refl _, by omega, hr, fun N hN K z => ?_, fun N hN K z => ?_⟩
      · obtain ⟨N, rfl⟩ : ∃ M, N = M + 1 := ⟨N - 1, by omega⟩
        rw [mm_lk_s, fX4_readNumber_L13, iw_self a3]
        simp (implicitDefEqProofs := false) (maxSteps := 1000000) (disch := omega) only [a1, a3, b1.1, ↓mm_lt_s, ↓cl_in, ↓cl_wi, ↓cl_has, ↓cl_isP, mL_le, lit_n, litL_n, mL_mI, mL_neg, mm_cl_s, mI_lt, mI_le, mI_eq, enc_at, enc_wr, enc_cp, mI_neg, mI_add, mI_sub, mI_mul, mI_ix, mm_ck_ok, mm_nz_ok, mm_bo_c, mm_bo_m0, mm_bo_m1, b01, Int.toNat_natCast, Int.reduceToNat, Int.reduceNeg, Int.reduceSub, Int.reduceAdd, Int.reduceMul, Int.reduceLT, Int.reduceLE, Int.reduceEq, ↓reduceIte, not_true, not_false_eq_true, not_true_eq_false, and_self, true_and, and_true, false_and, and_false, Decidable.not_not, stv1, stv2, stv3, stv4]
        by_cases c2 : τ 3 pl < 48
        · repeat (first | rw [if_pos (by omega)] | rw [if_neg (by omega)])
        · repeat (first | rw [if_pos (by omega)] | rw [if_neg (by omega)])
      · obtain ⟨N, rfl⟩ : ∃ M, N = M + 1 := ⟨N - 1, by omega⟩
        rw [mm_lk_s, fX7_readNumber_L13, iw_self a4]
        simp (implicitDefEqProofs := false) (maxSteps := 1000000) (disch := omega) only [a2, a4, ↓mm_lt_s, ↓cl_in, ↓cl_wi, ↓cl_has, ↓cl_isP, mL_le, lit_n, litL_n, mL_mI, mL_neg, mm_cl_s, mI_lt, mI_le, mI_eq, enc_at, enc_wr, enc_cp, mI_neg, mI_add, mI_sub, mI_mul, mI_ix, mm_ck_ok, mm_nz_ok, mm_bo_c, mm_bo_m0, mm_bo_m1, b01, Int.toNat_natCast, Int.reduceToNat, Int.reduceNeg, Int.reduceSub, Int.reduceAdd, Int.reduceMul, Int.reduceLT, Int.reduceLE, Int.reduceEq, ↓reduceIte, not_true, not_false_eq_true, not_true_eq_false, and_self, true_and, and_true, false_and, and_false, Decidable.not_not, stv1, stv2, stv3, stv4]
        repeat (first | rw [if_pos (by omega)] | rw [if_neg (by omega)])
theorem numP {σ τ : IM} {n pl : Nat} (h : TP σ τ n pl) (lo hi : Int) (h1 : 0 ≤ lo) (h2 : lo ≤ 1) (h3 : 0 ≤ hi) (h4 : hi ≤ 499) : ∃ (r : Int) (q : Nat), pl ≤ q ∧ q ≤ n ∧ fX4_readNumber (mI lo) (mI hi) (enc σ) = some (mI r, enc (iw σ 27 1 q)) ∧ fX7_readNumber (mI lo) (mI hi) (enc τ) = some (mI r, enc (iw τ 0 6 q)) ∧ ((lo ≤ r ∧ r ≤ hi) ∨ (r = -1 ∧ atB τ n q)) := by
  obtain ⟨⟨a1, a2, a3, a4, a5, a6⟩, a7⟩ := id h
  obtain ⟨q0, p1, p2, p3, p4, p5, p6⟩ := peekP h
  have T0 := h.to p2
  obtain ⟨q1, v, w, d1, d2, d3, d4, d5⟩ := digs (n - q0) q0 _ _ 0 0 (by omega) T0 (by unfold relV; omega)
  have hvw : -1 ≤ v ∧ v ≤ 100000 ∧ 0 ≤ w ∧ w ≤ 9999 := by unfold relV at d3; omega
  have e1 : iw σ 27 1 (q0 : Int) 27 1 = (q0 : Int) := iw_eq rfl rfl
  have e2 : iw σ 27 1 (q1 : Int) 27 1 = (q1 : Int) := iw_eq rfl rfl
  have e3 : iw τ 0 6 (q0 : Int) 0 6 = (q0 : Int) := iw_eq rfl rfl
  have e4 : iw τ 0 6 (q1 : Int) 0 6 = (q1 : Int) := iw_eq rfl rfl
  by_cases c : q1 ≠ q0 ∧ lo ≤ w ∧ w ≤ hi
  · have hv : v = w := by unfold relV at d3; omega
    subst hv
    refine ⟨v, q1, by omega, d2, ?_, ?_, Or.inl c.2⟩
    · unfold fX4_readNumber
      generalize hfu : mm_fu = NF; have hNF : 4096 ≤ NF := by rw [← hfu]; exact Nat.le_refl _
      rw [p4]
      simp (implicitDefEqProofs := false) (maxSteps := 1000000) (disch := omega) only [e1, ↓mm_lt_s, ↓cl_in, ↓cl_wi, ↓cl_has, ↓cl_isP, mL_le, lit_n, litL_n, mL_mI, mL_neg, mm_cl_s, mI_lt, mI_le, mI_eq, enc_at, enc_wr, enc_cp, mI_neg, mI_add, mI_sub, mI_mul, mI_ix, mm_ck_ok, mm_nz_ok, mm_bo_c, mm_bo_m0, mm_bo_m1, b01, Int.toNat_natCast, Int.reduceToNat, Int.reduceNeg, Int.reduceSub, Int.reduceAdd, Int.reduceMul, Int.reduceLT, Int.reduceLE, Int.reduceEq, ↓reduceIte, not_true, not_false_eq_true, not_true_eq_false, and_self, true_and, and_true, false_and, and_false, Decidable.not_not, stv1, stv2, stv3, stv4]
      rw [d4 NF (by omega), iw_iw]
      simp (implicitDefEqProofs := false) (maxSteps := 1000000) (disch := omega) only [e2, ↓mm_lt_s, ↓cl_in, ↓cl_wi, ↓cl_has, ↓cl_isP, mL_le, lit_n, litL_n, mL_mI, mL_neg, mm_cl_s, mI_lt, mI_le, mI_eq, enc_at, enc_wr, enc_cp, mI_neg, mI_add, mI_sub, mI_mul, mI_ix, mm_ck_ok, mm_nz_ok, mm_bo_c, mm_bo_m0, mm_bo_m1, b01, Int.toNat_natCast, Int.reduceToNat, Int.reduceNeg, Int.reduceSub, Int.reduceAdd, Int.reduceMul, Int.reduceLT, Int.reduceLE, Int.reduceEq, ↓reduceIte, not_true, not_false_eq_true, not_true_eq_false, and_self, true_and, and_true, false_and, and_false, Decidable.not_not, stv1, stv2, stv3, stv4]
      repeat (first | rw [if_pos (by omega)] | rw [if_neg (by omega)])
    · unfold fX7_readNumber
      generalize hfu : mm_fu = NF; have hNF : 4096 ≤ NF := by rw [← hfu]; exact Nat.le_refl _
      rw [p5]
      simp (implicitDefEqProofs := false) (maxSteps := 1000000) (disch := omega) only [e3, ↓mm_lt_s, ↓cl_in, ↓cl_wi, ↓cl_has, ↓cl_isP, mL_le, lit_n, litL_n, mL_mI, mL_neg, mm_cl_s, mI_lt, mI_le, mI_eq, enc_at, enc_wr, enc_cp, mI_neg, mI_add, mI_sub, mI_mul, mI_ix, mm_ck_ok, mm_nz_ok, mm_bo_c, mm_bo_m0, mm_bo_m1, b01, Int.toNat_natCast, Int.reduceToNat, Int.reduceNeg, Int.reduceSub, Int.reduceAdd, Int.reduceMul, Int.reduceLT, Int.reduceLE, Int.reduceEq, ↓reduceIte, not_true, not_false_eq_true, not_true_eq_false, and_self, true_and, and_true, false_and, and_false, Decidable.not_not, stv1, stv2, stv3, stv4]
      rw [d5 NF (by omega), iw_iw]
      simp (implicitDefEqProofs := false) (maxSteps := 1000000) (disch := omega) only [e4, ↓mm_lt_s, ↓cl_in, ↓cl_wi, ↓cl_has, ↓cl_isP, mL_le, lit_n, litL_n, mL_mI, mL_neg, mm_cl_s, mI_lt, mI_le, mI_eq, enc_at, enc_wr, enc_cp, mI_neg, mI_add, mI_sub, mI_mul, mI_ix, mm_ck_ok, mm_nz_ok, mm_bo_c, mm_bo_m0, mm_bo_m1, b01, Int.toNat_natCast, Int.reduceToNat, Int.reduceNeg, Int.reduceSub, Int.reduceAdd, Int.reduceMul, Int.reduceLT, Int.reduceLE, Int.reduceEq, ↓reduceIte, not_true, not_false_eq_true, not_true_eq_false, and_self, true_and, and_true, false_and, and_false, Decidable.not_not, stv1, stv2, stv3, stv4]
      repeat (first | rw [if_pos (by omega)] | rw [if_neg (by omega)])
  · refine ⟨-1, q0, by omega, p2, ?_, ?_, Or.inr ⟨rfl, p3⟩⟩
    · unfold fX4_readNumber
      generalize hfu : mm_fu = NF; have hNF : 4096 ≤ NF := by rw [← hfu]; exact Nat.le_refl _
      rw [p4]
      simp (implicitDefEqProofs := false) (maxSteps := 1000000) (disch := omega) only [e1, ↓mm_lt_s, ↓cl_in, ↓cl_wi, ↓cl_has, ↓cl_isP, mL_le, lit_n, litL_n, mL_mI, mL_neg, mm_cl_s, mI_lt, mI_le, mI_eq, enc_at, enc_wr, enc_cp, mI_neg, mI_add, mI_sub, mI_mul, mI_ix, mm_ck_ok, mm_nz_ok, mm_bo_c, mm_bo_m0, mm_bo_m1, b01, Int.toNat_natCast, Int.reduceToNat, Int.reduceNeg, Int.reduceSub, Int.reduceAdd, Int.reduceMul, Int.reduceLT, Int.reduceLE, Int.reduceEq, ↓reduceIte, not_true, not_false_eq_true, not_true_eq_false, and_self, true_and, and_true, false_and, and_false, Decidable.not_not, stv1, stv2, stv3, stv4]
      rw [d4 NF (by omega), iw_iw]
      simp (implicitDefEqProofs := false) (maxSteps := 1000000) (disch := omega) only [e2, iw_iw, ↓mm_lt_s, ↓cl_in, ↓cl_wi, ↓cl_has, ↓cl_isP, mL_le, lit_n, litL_n, mL_mI, mL_neg, mm_cl_s, mI_lt, mI_le, mI_eq, enc_at, enc_wr, enc_cp, mI_neg, mI_add, mI_sub, mI_mul, mI_ix, mm_ck_ok, mm_nz_ok, mm_bo_c, mm_bo_m0, mm_bo_m1, b01, Int.toNat_natCast, Int.reduceToNat, Int.reduceNeg, Int.reduceSub, Int.reduceAdd, Int.reduceMul, Int.reduceLT, Int.reduceLE, Int.reduceEq, ↓reduceIte, not_true, not_false_eq_true, not_true_eq_false, and_self, true_and, and_true, false_and, and_false, Decidable.not_not, stv1, stv2, stv3, stv4]
      by_cases c1 : q1 = q0
      · repeat (first | rw [if_pos (by omega)] | rw [if_neg (by omega)])
      · by_cases c2 : v < lo
        · repeat (first | rw [if_pos (by omega)] | rw [if_neg (by omega)])
        · have c3 : ¬ v ≤ hi := by unfold relV at d3; omega
          repeat (first | rw [if_pos (by omega)] | rw [if_neg (by omega)])
    · unfold fX7_readNumber
      generalize hfu : mm_fu = NF; have hNF : 4096 ≤ NF := by rw [← hfu]; exact Nat.le_refl _
      rw [p5]
      simp (implicitDefEqProofs := false) (maxSteps := 1000000) (disch := omega) only [e3, ↓mm_lt_s, ↓cl_in, ↓cl_wi, ↓cl_has, ↓cl_isP, mL_le, lit_n, litL_n, mL_mI, mL_neg, mm_cl_s, mI_lt, mI_le, mI_eq, enc_at, enc_wr, enc_cp, mI_neg, mI_add, mI_sub, mI_mul, mI_ix, mm_ck_ok, mm_nz_ok, mm_bo_c, mm_bo_m0, mm_bo_m1, b01, Int.toNat_natCast, Int.reduceToNat, Int.reduceNeg, Int.reduceSub, Int.reduceAdd, Int.reduceMul, Int.reduceLT, Int.reduceLE, Int.reduceEq, ↓reduceIte, not_true, not_false_eq_true, not_true_eq_false, and_self, true_and, and_true, false_and, and_false, Decidable.not_not, stv1, stv2, stv3, stv4]
      rw [d5 NF (by omega), iw_iw]
      simp (implicitDefEqProofs := false) (maxSteps := 1000000) (disch := omega) only [e4, iw_iw, ↓mm_lt_s, ↓cl_in, ↓cl_wi, ↓cl_has, ↓cl_isP, mL_le, lit_n, litL_n, mL_mI, mL_neg, mm_cl_s, mI_lt, mI_le, mI_eq, enc_at, enc_wr, enc_cp, mI_neg, mI_add, mI_sub, mI_mul, mI_ix, mm_ck_ok, mm_nz_ok, mm_bo_c, mm_bo_m0, mm_bo_m1, b01, Int.toNat_natCast, Int.reduceToNat, Int.reduceNeg, Int.reduceSub, Int.reduceAdd, Int.reduceMul, Int.reduceLT, Int.reduceLE, Int.reduceEq, ↓reduceIte, not_true, not_false_eq_true, not_true_eq_false, and_self, true_and, and_true, false_and, and_false, Decidable.not_not, stv1, stv2, stv3, stv4]
      by_cases c1 : q1 = q0
      · subst c1
        repeat (first | rw [if_pos (by omega)] | rw [if_neg (by omega)])
      · repeat (first | rw [if_pos (by omega)] | rw [if_neg (by omega)])
