theorem addMn_7 {v : Nat → Nat → Int} : ∀ (d i m : Nat) (τ : IM), addMn v d i m τ 0 7 = τ 0 7
  | 0, _, _, _ => rfl
  | d + 1, i, m, τ => by
    rw [addMn, addMn_7 d, addM_ne (by omega) (by omega)]
theorem pplX {σ σ1 σ2 : IM} {i : Nat} {b b2 q2 : Int} (hi : i < 6) (hb : b = 0 ∨ b = 1) (hb2 : I32 b2) (hq : 0 ≤ q2 ∧ q2 ≤ 80) (pX : fX4_readPerson (mI ((5 * i : Nat) : Int)) (enc σ) = some (mI b, enc σ1)) (pK : fX4_peek (enc σ1) = some (mI b2, enc σ2)) (hs : σ2 27 1 = q2) (N : Nat) (K0 : Mm → Aa) (K1 : Int32 → Mm → Aa) (z : Int32 → Mm → Aa) : mm_lk z (fX4_readPeople_L7 K0 K1 K0 K0) (N + 1) (mI ((i : Int) + 1)) (enc σ) = if b = 0 then K0 (enc σ1) else if b2 = -1 then K1 (mI ((i : Int) + 1)) (enc σ2) else if b2 = 59 then (if (i : Int) + 1 = 6 then K0 (enc σ2) else mm_lk z (fX4_readPeople_L7 K0 K1 K0 K0) N (mI ((i : Int) + 1 + 1)) (enc (iw σ2 27 1 (q2 + 1)))) else K0 (enc σ2) := by
  have e5 : ((i : Int) + 1 - 1) * 5 = ((5 * i : Nat) : Int) := by omega
  have e6 : ¬ 6 < (i : Int) + 1 := by omega
  rw [mm_lk_s, fX4_readPeople_L7]
  simp (implicitDefEqProofs := false) (maxSteps := 1000000) (disch := omega) only [e5, e6, ↓mm_lt_s, ↓cl_in, ↓cl_wi, ↓cl_has, ↓cl_isP, mL_le, lit_n, litL_n, mL_mI, mL_neg, mm_cl_s, mI_lt, mI_le, mI_eq, enc_at, enc_wr, enc_cp, mI_neg, mI_add, mI_sub, mI_mul, mI_ix, mm_ck_ok, mm_nz_ok, mm_bo_c, mm_bo_m0, mm_bo_m1, b01, Int.toNat_natCast, Int.reduceToNat, Int.reduceNeg, Int.reduceSub, Int.reduceAdd, Int.reduceMul, Int.reduceLT, Int.reduceLE, Int.reduceEq, ↓reduceIte, not_true, not_false_eq_true, not_true_eq_false, and_self, true_and, and_true, false_and, and_false, Decidable.not_not, stv1, stv2, stv3, stv4]
  rw [pX]
  simp (implicitDefEqProofs := false) (maxSteps := 1000000) (disch := omega) only [↓mm_lt_s, ↓cl_in, ↓cl_wi, ↓cl_has, ↓cl_isP, mL_le, lit_n, litL_n, mL_mI, mL_neg, mm_cl_s, mI_lt, mI_le, mI_eq, enc_at, enc_wr, enc_cp, mI_neg, mI_add, mI_sub, mI_mul, mI_ix, mm_ck_ok, mm_nz_ok, mm_bo_c, mm_bo_m0, mm_bo_m1, b01, Int.toNat_natCast, Int.reduceToNat, Int.reduceNeg, Int.reduceSub, Int.reduceAdd, Int.reduceMul, Int.reduceLT, Int.reduceLE, Int.reduceEq, ↓reduceIte, not_true, not_false_eq_true, not_true_eq_false, and_self, true_and, and_true, false_and, and_false, Decidable.not_not, stv1, stv2, stv3, stv4]
  rw [pK]
  simp (implicitDefEqProofs := false) (maxSteps := 1000000) (disch := omega) only [hs, ↓mm_lt_s, ↓cl_in, ↓cl_wi, ↓cl_has, ↓cl_isP, mL_le, lit_n, litL_n, mL_mI, mL_neg, mm_cl_s, mI_lt, mI_le, mI_eq, enc_at, enc_wr, enc_cp, mI_neg, mI_add, mI_sub, mI_mul, mI_ix, mm_ck_ok, mm_nz_ok, mm_bo_c, mm_bo_m0, mm_bo_m1, b01, Int.toNat_natCast, Int.reduceToNat, Int.reduceNeg, Int.reduceSub, Int.reduceAdd, Int.reduceMul, Int.reduceLT, Int.reduceLE, Int.reduceEq, ↓reduceIte, not_true, not_false_eq_true, not_true_eq_false, and_self, true_and, and_true, false_and, and_false, Decidable.not_not, stv1, stv2, stv3, stv4]
theorem pplM {τ τ1 τ2 : IM} {i : Nat} {b b2 q2 : Int} (hi : i < 6) (hb : b = 0 ∨ b = 1) (hb2 : I32 b2) (hq : 0 ≤ q2 ∧ q2 ≤ 80) (pX : fX7_readPerson (mI ((5 * i : Nat) : Int)) (enc τ) = some (mI b, enc τ1)) (pK : fX7_nextByte (enc (iw τ1 0 7 ((i : Int) + 1))) = some (mI b2, enc τ2)) (hs : τ2 0 6 = q2) (N : Nat) (K0 K1 : Mm → Aa) (z : Int32 → Mm → Aa) : mm_lk z (fX7_readPeople_L7 K0 K1 K0 K0) (N + 1) (mI i) (enc τ) = if b = 0 then K0 (enc τ1) else if 0 ≤ b2 then (if b2 = 59 then (if (i : Int) = 5 then K0 (enc τ2) else mm_lk z (fX7_readPeople_L7 K0 K1 K0 K0) N (mI ((i : Int) + 1)) (enc (iw τ2 0 6 (q2 + 1)))) else K0 (enc τ2)) else K1 (enc τ2) := by
  have e5 : 5 * (i : Int) = ((5 * i : Nat) : Int) := by omega
  have e6 : ¬ 6 ≤ (i : Int) := by omega
  rw [mm_lk_s, fX7_readPeople_L7]
  simp (implicitDefEqProofs := false) (maxSteps := 1000000) (disch := omega) only [e5, e6, ↓mm_lt_s, ↓cl_in, ↓cl_wi, ↓cl_has, ↓cl_isP, mL_le, lit_n, litL_n, mL_mI, mL_neg, mm_cl_s, mI_lt, mI_le, mI_eq, enc_at, enc_wr, enc_cp, mI_neg, mI_add, mI_sub, mI_mul, mI_ix, mm_ck_ok, mm_nz_ok, mm_bo_c, mm_bo_m0, mm_bo_m1, b01, Int.toNat_natCast, Int.reduceToNat, Int.reduceNeg, Int.reduceSub, Int.reduceAdd, Int.reduceMul, Int.reduceLT, Int.reduceLE, Int.reduceEq, ↓reduceIte, not_true, not_false_eq_true, not_true_eq_false, and_self, true_and, and_true, false_and, and_false, Decidable.not_not, stv1, stv2, stv3, stv4]
  rw [pX]
  simp (implicitDefEqProofs := false) (maxSteps := 1000000) (disch := omega) only [↓mm_lt_s, ↓cl_in, ↓cl_wi, ↓cl_has, ↓cl_isP, mL_le, lit_n, litL_n, mL_mI, mL_neg, mm_cl_s, mI_lt, mI_le, mI_eq, enc_at, enc_wr, enc_cp, mI_neg, mI_add, mI_sub, mI_mul, mI_ix, mm_ck_ok, mm_nz_ok, mm_bo_c, mm_bo_m0, mm_bo_m1, b01, Int.toNat_natCast, Int.reduceToNat, Int.reduceNeg, Int.reduceSub, Int.reduceAdd, Int.reduceMul, Int.reduceLT, Int.reduceLE, Int.reduceEq, ↓reduceIte, not_true, not_false_eq_true, not_true_eq_false, and_self, true_and, and_true, false_and, and_false, Decidable.not_not, stv1, stv2, stv3, stv4]
  rw [pK]
  simp (implicitDefEqProofs := false) (maxSteps := 1000000) (disch := omega) only [hs, ↓mm_lt_s, ↓cl_in, ↓cl_wi, ↓cl_has, ↓cl_isP, mL_le, lit_n, litL_n, mL_mI, mL_neg, mm_cl_s, mI_lt, mI_le, mI_eq, enc_at, enc_wr, enc_cp, mI_neg, mI_add, mI_sub, mI_mul, mI_ix, mm_ck_ok, mm_nz_ok, mm_bo_c, mm_bo_m0, mm_bo_m1, b01, Int.toNat_natCast, Int.reduceToNat, Int.reduceNeg, Int.reduceSub, Int.reduceAdd, Int.reduceMul, Int.reduceLT, Int.reduceLE, Int.reduceEq, ↓reduceIte, not_true, not_false_eq_true, not_true_eq_false, and_self, true_and, and_true, false_and, and_false, Decidable.not_not, stv1, stv2, stv3, stv4]
def PR (σ τ : IM) (i : Nat) : Prop := ∀ i', i' < i → PC σ τ (5 * i') 5
theorem PR.cong {σ τ σ' τ' : IM} {i : Nat} (h : PR σ τ i) (h1 : ∀ j, j < 5 * i → σ' 29 j = σ 29 j ∧ τ' 4 j = τ 4 j) : PR σ' τ' i := fun i' hi j hj => by
  rw [(h1 _ (by omega)).1, (h1 _ (by omega)).2]; exact h i' hi j hj
theorem peopleL {n : Nat} : ∀ (d i pl : Nat) (σ τ : IM), i + d = 5 → TP σ τ n pl → PR σ τ i → ∃ (σ' τ' : IM) (q : Nat), FX σ σ' ∧ FM τ τ' ∧ TP σ' τ' n q ∧ (((∀ (N : Nat), d < N → ∀ (K0 : Mm → Aa) (K1 : Int32 → Mm → Aa) (z : Int32 → Mm → Aa), mm_lk z (fX4_readPeople_L7 K0 K1 K0 K0) N (mI ((i : Int) + 1)) (enc σ) = K0 (enc σ')) ∧ (∀ (N : Nat), d < N → ∀ (K0 K1 : Mm → Aa) (z : Int32 → Mm → Aa), mm_lk z (fX7_readPeople_L7 K0 K1 K0 K0) N (mI i) (enc τ) = K0 (enc τ')) ∧ atB τ' n q) ∨ ∃ c : Nat, ((∀ (N : Nat), d < N → ∀ (K0 : Mm → Aa) (K1 : Int32 → Mm → Aa) (z : Int32 → Mm → Aa), mm_lk z (fX4_readPeople_L7 K0 K1 K0 K0) N (mI ((i : Int) + 1)) (enc σ) = K1 (mI c) (enc σ')) ∧ (∀ (N : Nat), d < N → ∀ (K0 K1 : Mm → Aa) (z : Int32 → Mm → Aa), mm_lk z (fX7_readPeople_L7 K0 K1 K0 K0) N (mI i) (enc τ) = K1 (enc τ')) ∧ 1 ≤ c ∧ c ≤ 6 ∧ τ' 0 7 = (c : Int) ∧ PR σ' τ' c)) := by
  intro d
  induction d with
  | zero =>
    intro i pl σ τ h hT hR
    obtain ⟨b, σ1, τ1, q1, pX, pM, S1, C1⟩ := personP hT (5 * i) (by omega)
    have hb : b = 0 ∨ b = 1 := by rcases C1 with c | c <;> omega
    have T1 : TP σ1 (iw τ1 0 7 ((i : Int) + 1)) n q1 := S1.1.cong (fun _ _ _ => rfl) (fun _ => iw_ne (by omega)) (iw_ne (by omega)) (iw_ne (by omega))
    obtain ⟨q2, v1, v2, v3, v4, v5, v6⟩ := peekP T1
    have N2 := nx_rng (q0 := q2) T1
    have T2 := T1.to v2
    have n80 := hT.1.2.2.2.2.2
    generalize nxB (iw τ1 0 7 ((i : Int) + 1)) n q2 = b2 at *
    have X := pplX (q2 := q2) (by omega) hb N2.1 (by omega) pX v4 (iw_eq rfl rfl)
    have M := pplM (q2 := q2) (by omega) hb N2.1 (by omega) pM v5 (iw_eq rfl rfl)
    by_cases c0 : b = 0
    · refine ⟨σ1, τ1, q1, S1.2.1, S1.2.2.1, S1.1, Or.inl ⟨fun N hN K0 K1 z => ?_, fun N hN K0 K1 z => ?_, ?_⟩⟩
      · obtain ⟨N, rfl⟩ : ∃ M, N = M + 1 := ⟨N - 1, by omega⟩
        rw [X, if_pos c0]
      · obtain ⟨N, rfl⟩ : ∃ M, N = M + 1 := ⟨N - 1, by omega⟩
        rw [M, if_pos c0]
      · rcases C1 with c | c
        · exact c.2
        · omega
    · have C5 : PC σ1 τ1 (5 * i) 5 := by
        rcases C1 with c | c
        · omega
        · exact c.2
      by_cases c1 : b2 = -1
      · refine ⟨_, _, q2, S1.2.1.tr FX.pl, (S1.2.2.1.tr FM.ct).tr FM.pl, T2, Or.inr ⟨i + 1, fun N hN K0 K1 z => ?_, fun N hN K0 K1 z => ?_, by omega, by omega, ?_, fun i' hi j hj => ?_⟩⟩
        · obtain ⟨N, rfl⟩ : ∃ M, N = M + 1 := ⟨N - 1, by omega⟩
          rw [X, if_neg c0, if_pos c1, cast_s]
        · obtain ⟨N, rfl⟩ : ∃ M, N = M + 1 := ⟨N - 1, by omega⟩
          rw [M, if_neg c0, if_neg (by omega)]
        · rw [iw_ne (by omega), iw_eq rfl rfl]; omega
        · rw [iw_ne (by omega), iw_ne (by omega), iw_ne (by omega)]
          by_cases e : i' = i
          · subst e; exact C5 j hj
          · rw [(S1.2.2.2.2 (5 * i' + j) (by omega)).1, (S1.2.2.2.2 (5 * i' + j) (by omega)).2]
            exact hR i' (by omega) j hj
      · refine ⟨_, _, q2, S1.2.1.tr FX.pl, (S1.2.2.1.tr FM.ct).tr FM.pl, T2, Or.inl ⟨fun N hN K0 K1 z => ?_, fun N hN K0 K1 z => ?_, atB_iw (by omega) v3⟩⟩
        · obtain ⟨N, rfl⟩ : ∃ M, N = M + 1 := ⟨N - 1, by omega⟩
          rw [X, if_neg c0, if_neg c1]
          by_cases c2 : b2 = 59
          · rw [if_pos c2, if_pos (by omega)]
          · rw [if_neg c2]
        · obtain ⟨N, rfl⟩ : ∃ M, N = M + 1 := ⟨N - 1, by omega⟩
          rw [M, if_neg c0, if_pos (by omega)]
          by_cases c2 : b2 = 59
          · rw [if_pos c2, if_pos (by omega)]
          · rw [if_neg c2]
  | succ d ih =>
    intro i pl σ τ h hT hR
    obtain ⟨b, σ1, τ1, q1, pX, pM, S1, C1⟩ := personP hT (5 * i) (by omega)
    have hb : b = 0 ∨ b = 1 := by rcases C1 with c | c <;> omega
    have T1 : TP σ1 (iw τ1 0 7 ((i : Int) + 1)) n q1 := S1.1.cong (fun _ _ _ => rfl) (fun _ => iw_ne (by omega)) (iw_ne (by omega)) (iw_ne (by omega))
    obtain ⟨q2, v1, v2, v3, v4, v5, v6⟩ := peekP T1
    have N2 := nx_rng (q0 := q2) T1
    have T2 := T1.to v2
    have n80 := hT.1.2.2.2.2.2
    generalize nxB (iw τ1 0 7 ((i : Int) + 1)) n q2 = b2 at *
    have X := pplX (q2 := q2) (by omega) hb N2.1 (by omega) pX v4 (iw_eq rfl rfl)
    have M := pplM (q2 := q2) (by omega) hb N2.1 (by omega) pM v5 (iw_eq rfl rfl)
    by_cases c0 : b = 0
    · refine ⟨σ1, τ1, q1, S1.2.1, S1.2.2.1, S1.1, Or.inl ⟨fun N hN K0 K1 z => ?_, fun N hN K0 K1 z => ?_, ?_⟩⟩
      · obtain ⟨N, rfl⟩ : ∃ M, N = M + 1 := ⟨N - 1, by omega⟩
        rw [X, if_pos c0]
      · obtain ⟨N, rfl⟩ : ∃ M, N = M + 1 := ⟨N - 1, by omega⟩
        rw [M, if_pos c0]
      · rcases C1 with c | c
        · exact c.2
        · omega
    · have C5 : PC σ1 τ1 (5 * i) 5 := by
        rcases C1 with c | c
        · omega
        · exact c.2
      have R5 : PR σ1 τ1 (i + 1) := fun i' hi j hj => by
        by_cases e : i' = i
        · subst e; exact C5 j hj
        · rw [(S1.2.2.2.2 (5 * i' + j) (by omega)).1, (S1.2.2.2.2 (5 * i' + j) (by omega)).2]
          exact hR i' (by omega) j hj
      by_cases c1 : b2 = -1
      · refine ⟨_, _, q2, S1.2.1.tr FX.pl, (S1.2.2.1.tr FM.ct).tr FM.pl, T2, Or.inr ⟨i + 1, fun N hN K0 K1 z => ?_, fun N hN K0 K1 z => ?_, by omega, by omega, ?_, R5.cong (fun j hj => ?_)⟩⟩
        · obtain ⟨N, rfl⟩ : ∃ M, N = M + 1 := ⟨N - 1, by omega⟩
          rw [X, if_neg c0, if_pos c1, cast_s]
        · obtain ⟨N, rfl⟩ : ∃ M, N = M + 1 := ⟨N - 1, by omega⟩
          rw [M, if_neg c0, if_neg (by omega)]
        · rw [iw_ne (by omega), iw_eq rfl rfl]; omega
        · rw [iw_ne (by omega), iw_ne (by omega), iw_ne (by omega)]; exact ⟨rfl, rfl⟩
      · by_cases c2 : b2 = 59
        · have hq2 : q2 < n := N2.2.2.2 c1
          have T3 := T1.to (q := q2 + 1) (by omega)
          obtain ⟨σ', τ', q, g1, g2, g3, g4⟩ := ih (i + 1) (q2 + 1) _ _ (by omega) T3 (R5.cong (fun j hj => by rw [iw_ne (by omega), iw_ne (by omega), iw_ne (by omega)]; exact ⟨rfl, rfl⟩))
          have G1 : FX σ σ' := (S1.2.1.tr FX.pl).tr g1
          have G2 : FM τ τ' := ((S1.2.2.1.tr FM.ct).tr FM.pl).tr g2
          have e1 : ((i + 1 : Nat) : Int) + 1 = (i : Int) + 1 + 1 := by omega
          have e2 : ((q2 + 1 : Nat) : Int) = (q2 : Int) + 1 := by omega
          have e3 : ((i + 1 : Nat) : Int) = (i : Int) + 1 := by omega
          rw [e1, e2, e3] at g4
          refine ⟨σ', τ', q, G1, G2, g3, ?_⟩
          have X' : ∀ (N : Nat) (K0 : Mm → Aa) (K1 : Int32 → Mm → Aa) (z : Int32 → Mm → Aa), mm_lk z (fX4_readPeople_L7 K0 K1 K0 K0) (N + 1) (mI ((i : Int) + 1)) (enc σ) = mm_lk z (fX4_readPeople_L7 K0 K1 K0 K0) N (mI ((i : Int) + 1 + 1)) (enc (iw σ1 27 1 ((q2 : Int) + 1))) := fun N K0 K1 z => by
            rw [X, if_neg c0, if_neg c1, if_pos c2, if_neg (by omega), iw_iw]
          have M' : ∀ (N : Nat) (K0 K1 : Mm → Aa) (z : Int32 → Mm → Aa), mm_lk z (fX7_readPeople_L7 K0 K1 K0 K0) (N + 1) (mI i) (enc τ) = mm_lk z (fX7_readPeople_L7 K0 K1 K0 K0) N (mI ((i : Int) + 1)) (enc (iw (iw τ1 0 7 ((i : Int) + 1)) 0 6 ((q2 : Int) + 1))) := fun N K0 K1 z => by
            rw [M, if_neg c0, if_pos (by omega), if_pos c2, if_neg (by omega), iw_iw]
          rcases g4 with ⟨h1, h2, h3⟩ | ⟨c, h1, h2, h3⟩
          · refine Or.inl ⟨fun N hN K0 K1 z => ?_, fun N hN K0 K1 z => ?_, h3⟩
            · obtain ⟨N, rfl⟩ : ∃ M, N = M + 1 := ⟨N - 1, by omega⟩
              rw [X']; exact h1 N (by omega) K0 K1 z
            · obtain ⟨N, rfl⟩ : ∃ M, N = M + 1 := ⟨N - 1, by omega⟩
              rw [M']; exact h2 N (by omega) K0 K1 z
          · refine Or.inr ⟨c, fun N hN K0 K1 z => ?_, fun N hN K0 K1 z => ?_, h3⟩
            · obtain ⟨N, rfl⟩ : ∃ M, N = M + 1 := ⟨N - 1, by omega⟩
              rw [X']; exact h1 N (by omega) K0 K1 z
            · obtain ⟨N, rfl⟩ : ∃ M, N = M + 1 := ⟨N - 1, by omega⟩
              rw [M']; exact h2 N (by omega) K0 K1 z
        · refine ⟨_, _, q2, S1.2.1.tr FX.pl, (S1.2.2.1.tr FM.ct).tr FM.pl, T2, Or.inl ⟨fun N hN K0 K1 z => ?_, fun N hN K0 K1 z => ?_, atB_iw (by omega) v3⟩⟩
          · obtain ⟨N, rfl⟩ : ∃ M, N = M + 1 := ⟨N - 1, by omega⟩
            rw [X, if_neg c0, if_neg c1, if_neg c2]
          · obtain ⟨N, rfl⟩ : ∃ M, N = M + 1 := ⟨N - 1, by omega⟩
            rw [M, if_neg c0, if_pos (by omega), if_neg c2]
theorem q_people {σ τ : IM} (h : RX σ τ) : Like (fX6_people (enc σ)) (fX7_people (enc τ)) := by
  obtain ⟨n, hT⟩ := h.TP
  obtain ⟨σ', τ', q, f1, f2, f3, f4⟩ := peopleL 5 0 0 _ _ (by omega) hT (fun i hi => absurd hi (Nat.not_lt_zero i))
  have F1 : FX σ σ' := FX.pl.tr f1
  have F2 : FM τ τ' := FM.pl.tr f2
  have R := h.read F1 F2
  obtain ⟨⟨a1, a2, a3, a4, a5, a6⟩, a7⟩ := id f3
  obtain ⟨q2, p1, p2, p3, p4, p5, p6⟩ := peekP f3
  have N2 := nx_rng (q0 := q2) f3
  have z1 : ((0 : Nat) : Int) + 1 = 1 := rfl
  unfold fX6_people fX7_people fX4_readPeople fX7_readPeople
  generalize hfu : mm_fu = NF; have hNF : 4096 ≤ NF := by rw [← hfu]; exact Nat.le_refl _
  rcases f4 with ⟨g1, g2, g3⟩ | ⟨c, g1, g2, g4, g5, g6, g7⟩
  · have G1 := g1 NF (by omega)
    have G2 := g2 NF (by omega)
    rw [z1] at G1
    rw [cast0] at G2
    have e1 := p6 g3
    subst e1
    have e2 : iw τ' 0 6 (q2 : Int) = τ' := iw_self a4
    have u5 : iw τ' 0 5 0 0 6 = (q2 : Int) := by rw [iw_ne (by omega)]; exact a4
    simp (implicitDefEqProofs := false) (maxSteps := 1000000) (disch := omega) only [↓mm_lt_s, ↓cl_in, ↓cl_wi, ↓cl_has, ↓cl_isP, mL_le, lit_n, litL_n, mL_mI, mL_neg, mm_cl_s, mI_lt, mI_le, mI_eq, enc_at, enc_wr, enc_cp, mI_neg, mI_add, mI_sub, mI_mul, mI_ix, mm_ck_ok, mm_nz_ok, mm_bo_c, mm_bo_m0, mm_bo_m1, b01, Int.toNat_natCast, Int.reduceToNat, Int.reduceNeg, Int.reduceSub, Int.reduceAdd, Int.reduceMul, Int.reduceLT, Int.reduceLE, Int.reduceEq, ↓reduceIte, not_true, not_false_eq_true, not_true_eq_false, and_self, true_and, and_true, false_and, and_false, Decidable.not_not, stv1, stv2, stv3, stv4]
    rw [G1, G2]
    unfold fX4_fault
    simp (implicitDefEqProofs := false) (maxSteps := 1000000) (disch := omega) only [a3, ↓mm_lt_s, ↓cl_in, ↓cl_wi, ↓cl_has, ↓cl_isP, mL_le, lit_n, litL_n, mL_mI, mL_neg, mm_cl_s, mI_lt, mI_le, mI_eq, enc_at, enc_wr, enc_cp, mI_neg, mI_add, mI_sub, mI_mul, mI_ix, mm_ck_ok, mm_nz_ok, mm_bo_c, mm_bo_m0, mm_bo_m1, b01, Int.toNat_natCast, Int.reduceToNat, Int.reduceNeg, Int.reduceSub, Int.reduceAdd, Int.reduceMul, Int.reduceLT, Int.reduceLE, Int.reduceEq, ↓reduceIte, not_true, not_false_eq_true, not_true_eq_false, and_self, true_and, and_true, false_and, and_false, Decidable.not_not, stv1, stv2, stv3, stv4]
    rw [p5, e2]
    simp (implicitDefEqProofs := false) (maxSteps := 1000000) (disch := omega) only [u5, ↓mm_lt_s, ↓cl_in, ↓cl_wi, ↓cl_has, ↓cl_isP, mL_le, lit_n, litL_n, mL_mI, mL_neg, mm_cl_s, mI_lt, mI_le, mI_eq, enc_at, enc_wr, enc_cp, mI_neg, mI_add, mI_sub, mI_mul, mI_ix, mm_ck_ok, mm_nz_ok, mm_bo_c, mm_bo_m0, mm_bo_m1, b01, Int.toNat_natCast, Int.reduceToNat, Int.reduceNeg, Int.reduceSub, Int.reduceAdd, Int.reduceMul, Int.reduceLT, Int.reduceLE, Int.reduceEq, ↓reduceIte, not_true, not_false_eq_true, not_true_eq_false, and_self, true_and, and_true, false_and, and_false, Decidable.not_not, stv1, stv2, stv3, stv4]
    repeat (first | rw [if_pos (by omega)] | rw [if_neg (by omega)])
    exact Like.mk rfl rfl R
  · have G1 := g1 NF (by omega)
    have G2 := g2 NF (by omega)
    rw [z1] at G1
    rw [cast0] at G2
    obtain ⟨⟨b1, b2, b3⟩, b4⟩ := R.1.2
    obtain ⟨m, hm⟩ := Int.eq_ofNat_of_zero_le b2
    have hm1 : iw σ' 27 0 0 1 1 = (m : Int) := by rw [b1]; exact hm
    have h7 : iw τ' 0 5 0 0 7 = (c : Int) := by rw [iw_ne (by omega)]; exact g6
    have hv : ∀ i, i < c → rowOk (fun j => τ' 4 (5 * i + j)) := fun i hi j hj => (g7 i hi j hj).2
    have hsX : ∀ i j, i < c → j < 5 → iw σ' 27 0 0 29 (0 + 5 * i + j) = (fun i j => τ' 4 (5 * i + j)) i j := fun i j hi hj => by
      rw [iw_ne (by omega), Nat.zero_add]; exact (g7 i hi j hj).1
    have hsM : ∀ i j, i < c → j < 5 → iw τ' 0 5 0 4 (5 * i + j) = (fun i j => τ' 4 (5 * i + j)) i j := fun i j hi hj => iw_ne (by omega)
    have hc0 : ¬ (c : Int) < 0 := by omega
    have E := enlAll (k := 29) (n := 30) (f := 0) (v := fun i j => τ' 4 (5 * i + j)) (by omega) (by omega) (by omega) g5 hv hm1 (by omega) hsX
    rw [cast0] at E
    simp (implicitDefEqProofs := false) (maxSteps := 1000000) (disch := omega) only [↓mm_lt_s, ↓cl_in, ↓cl_wi, ↓cl_has, ↓cl_isP, mL_le, lit_n, litL_n, mL_mI, mL_neg, mm_cl_s, mI_lt, mI_le, mI_eq, enc_at, enc_wr, enc_cp, mI_neg, mI_add, mI_sub, mI_mul, mI_ix, mm_ck_ok, mm_nz_ok, mm_bo_c, mm_bo_m0, mm_bo_m1, b01, Int.toNat_natCast, Int.reduceToNat, Int.reduceNeg, Int.reduceSub, Int.reduceAdd, Int.reduceMul, Int.reduceLT, Int.reduceLE, Int.reduceEq, ↓reduceIte, not_true, not_false_eq_true, not_true_eq_false, and_self, true_and, and_true, false_and, and_false, Decidable.not_not, stv1, stv2, stv3, stv4]
    rw [G1, G2]
    simp (implicitDefEqProofs := false) (maxSteps := 1000000) (disch := omega) only [hm, h7, ↓mm_lt_s, ↓cl_in, ↓cl_wi, ↓cl_has, ↓cl_isP, mL_le, lit_n, litL_n, mL_mI, mL_neg, mm_cl_s, mI_lt, mI_le, mI_eq, enc_at, enc_wr, enc_cp, mI_neg, mI_add, mI_sub, mI_mul, mI_ix, mm_ck_ok, mm_nz_ok, mm_bo_c, mm_bo_m0, mm_bo_m1, b01, Int.toNat_natCast, Int.reduceToNat, Int.reduceNeg, Int.reduceSub, Int.reduceAdd, Int.reduceMul, Int.reduceLT, Int.reduceLE, Int.reduceEq, ↓reduceIte, not_true, not_false_eq_true, not_true_eq_false, and_self, true_and, and_true, false_and, and_false, Decidable.not_not, stv1, stv2, stv3, stv4]
    rw [E]
    by_cases c3 : m + c ≤ 10
    · rw [addR (v := fun i j => τ' 4 (5 * i + j)) g5 hm c3 h7 hsM]
      have k7 := addMn_7 (v := fun i j => τ' 4 (5 * i + j)) c 0 m (iw τ' 0 5 0)
      rw [h7] at k7
      rw [if_pos c3]
      simp (implicitDefEqProofs := false) (maxSteps := 1000000) (disch := omega) only [k7, ↓mm_lt_s, ↓cl_in, ↓cl_wi, ↓cl_has, ↓cl_isP, mL_le, lit_n, litL_n, mL_mI, mL_neg, mm_cl_s, mI_lt, mI_le, mI_eq, enc_at, enc_wr, enc_cp, mI_neg, mI_add, mI_sub, mI_mul, mI_ix, mm_ck_ok, mm_nz_ok, mm_bo_c, mm_bo_m0, mm_bo_m1, b01, Int.toNat_natCast, Int.reduceToNat, Int.reduceNeg, Int.reduceSub, Int.reduceAdd, Int.reduceMul, Int.reduceLT, Int.reduceLE, Int.reduceEq, ↓reduceIte, not_true, not_false_eq_true, not_true_eq_false, and_self, true_and, and_true, false_and, and_false, Decidable.not_not, stv1, stv2, stv3, stv4]
      repeat (first | rw [if_pos (by omega)] | rw [if_neg (by omega)])
      exact Like.mk rfl rfl (RX.addn c 0 m _ _ R hm c3 (fun j _ hj => hv j (by omega)))
    · rw [if_neg c3]
      simp (implicitDefEqProofs := false) (maxSteps := 1000000) (disch := omega) only [↓mm_lt_s, ↓cl_in, ↓cl_wi, ↓cl_has, ↓cl_isP, mL_le, lit_n, litL_n, mL_mI, mL_neg, mm_cl_s, mI_lt, mI_le, mI_eq, enc_at, enc_wr, enc_cp, mI_neg, mI_add, mI_sub, mI_mul, mI_ix, mm_ck_ok, mm_nz_ok, mm_bo_c, mm_bo_m0, mm_bo_m1, b01, Int.toNat_natCast, Int.reduceToNat, Int.reduceNeg, Int.reduceSub, Int.reduceAdd, Int.reduceMul, Int.reduceLT, Int.reduceLE, Int.reduceEq, ↓reduceIte, not_true, not_false_eq_true, not_true_eq_false, and_self, true_and, and_true, false_and, and_false, Decidable.not_not, stv1, stv2, stv3, stv4]
      repeat (first | rw [if_pos (by omega)] | rw [if_neg (by omega)])
      exact Like.mk rfl rfl R
