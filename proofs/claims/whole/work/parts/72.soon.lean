/-! soonest -/
theorem seF_tb {g : Nat → Bool} {q : Nat} : ∀ d i c, (seF g d i c / 2 ^ q % 2 = 1 ↔ (c / 2 ^ q % 2 = 1 ∨ ((i ≤ q ∧ q < i + d) ∧ g q = true)))
  | 0, i, c => by
    unfold seF
    exact ⟨Or.inl, fun x => x.elim id (fun y => by omega)⟩
  | d + 1, i, c => by
    unfold seF
    rw [seF_tb d (i + 1)]
    by_cases a : g i = true
    · rw [if_pos a, tb_or]
      constructor
      · rintro ((x | x) | ⟨x1, x2⟩)
        · exact Or.inl x
        · subst x
          exact Or.inr ⟨⟨by omega, by omega⟩, a⟩
        · exact Or.inr ⟨⟨by omega, by omega⟩, x2⟩
      · rintro (x | ⟨x1, x2⟩)
        · exact Or.inl (Or.inl x)
        · by_cases e : q = i
          · exact Or.inl (Or.inr e)
          · exact Or.inr ⟨⟨by omega, by omega⟩, x2⟩
    · rw [if_neg a]
      constructor
      · rintro (x | ⟨x1, x2⟩)
        · exact Or.inl x
        · exact Or.inr ⟨⟨by omega, by omega⟩, x2⟩
      · rintro (x | ⟨x1, x2⟩)
        · exact Or.inl x
        · by_cases e : q = i
          · subst e
            exact absurd x2 a
          · exact Or.inr ⟨⟨by omega, by omega⟩, x2⟩
theorem seF_lt {g : Nat → Bool} : ∀ d i c, i + d ≤ 10 → c < 1024 → seF g d i c < 1024
  | 0, _, _, _, h => h
  | d + 1, i, c, h1, h2 => by
    unfold seF
    refine seF_lt d (i + 1) _ (by omega) ?_
    split
    · exact or_lt h2 (by omega)
    · exact h2
theorem comX_L {K : Int32 → Mm → Aa} {z : Int32 → Int32 → Mm → Aa} {n a : Nat} {r : Nat → Nat} {σ : IM} (hn : n ≤ 6) (ha : a < n) (h0 : σ 44 0 = (n : Int)) (hr : ∀ k, k < n → σ 47 k = (r k : Int) ∧ r k < n) : ∀ (d i N c : Nat), i + d = n → d < N → c < 1024 → mm_lk z (fX1_companyOf_L4 (mI a) K) N (mI c) (mI i) (enc σ) = K (mI (seF (fun q => decide (r q = r a)) d i c)) (enc σ)
  | d, i, 0, c, _, h, _ => absurd h (Nat.not_lt_zero d)
  | 0, i, N + 1, c, h, _, _ => by
    rw [mm_lk_s, fX1_companyOf_L4]
    simp (implicitDefEqProofs := false) (maxSteps := 1000000) (disch := omega) only [h0, ↓mm_lt_s, ↓cl_in, ↓cl_wi, ↓cl_has, ↓cl_isP, mL_le, lit_n, litL_n, mL_mI, mL_neg, mm_cl_s, mI_lt, mI_le, mI_eq, enc_at, enc_wr, enc_cp, mI_neg, mI_add, mI_sub, mI_mul, mI_ix, mm_ck_ok, mm_nz_ok, mm_bo_c, mm_bo_m0, mm_bo_m1, b01, Int.toNat_natCast, Int.reduceToNat, Int.reduceNeg, Int.reduceSub, Int.reduceAdd, Int.reduceMul, Int.reduceLT, Int.reduceLE, Int.reduceEq, ↓reduceIte, not_true, not_false_eq_true, not_true_eq_false, and_self, true_and, and_true, false_and, and_false, Decidable.not_not, stv1, stv2, stv3, stv4]
    repeat (first | rw [if_pos (by omega)] | rw [if_neg (by omega)])
    rfl
  | d + 1, i, N + 1, c, h, h2, hc => by
    obtain ⟨r1, r2⟩ := hr i (by omega)
    obtain ⟨s1, s2⟩ := hr a ha
    have c1 : ¬ (n : Int) ≤ (i : Int) := by omega
    have O := or_all c hc i (by omega)
    have ol := or_lt hc (show i < 10 by omega)
    have e : seF (fun q => decide (r q = r a)) (d + 1) i c = seF (fun q => decide (r q = r a)) d (i + 1) (if decide (r i = r a) = true then c ||| 2 ^ i else c) := rfl
    rw [e, ← comX_L (K := K) (z := z) hn ha h0 hr d (i + 1) N _ (by omega) (by omega) (by split <;> omega), mm_lk_s, fX1_companyOf_L4]
    by_cases x : r i = r a
    · have x' : (r i : Int) = (r a : Int) := by omega
      rw [if_pos (decide_eq_true x)]
      simp (implicitDefEqProofs := false) (maxSteps := 1000000) (disch := omega) only [h0, c1, r1, s1, eq_true x', O, cast_s, ↓mm_lt_s, ↓cl_in, ↓cl_wi, ↓cl_has, ↓cl_isP, mL_le, lit_n, litL_n, mL_mI, mL_neg, mm_cl_s, mI_lt, mI_le, mI_eq, enc_at, enc_wr, enc_cp, mI_neg, mI_add, mI_sub, mI_mul, mI_ix, mm_ck_ok, mm_nz_ok, mm_bo_c, mm_bo_m0, mm_bo_m1, b01, Int.toNat_natCast, Int.reduceToNat, Int.reduceNeg, Int.reduceSub, Int.reduceAdd, Int.reduceMul, Int.reduceLT, Int.reduceLE, Int.reduceEq, ↓reduceIte, not_true, not_false_eq_true, not_true_eq_false, and_self, true_and, and_true, false_and, and_false, Decidable.not_not, stv1, stv2, stv3, stv4]
    · have x' : ¬ (r i : Int) = (r a : Int) := by omega
      rw [if_neg (fun y => x (of_decide_eq_true y))]
      simp (implicitDefEqProofs := false) (maxSteps := 1000000) (disch := omega) only [h0, c1, r1, s1, x', cast_s, ↓mm_lt_s, ↓cl_in, ↓cl_wi, ↓cl_has, ↓cl_isP, mL_le, lit_n, litL_n, mL_mI, mL_neg, mm_cl_s, mI_lt, mI_le, mI_eq, enc_at, enc_wr, enc_cp, mI_neg, mI_add, mI_sub, mI_mul, mI_ix, mm_ck_ok, mm_nz_ok, mm_bo_c, mm_bo_m0, mm_bo_m1, b01, Int.toNat_natCast, Int.reduceToNat, Int.reduceNeg, Int.reduceSub, Int.reduceAdd, Int.reduceMul, Int.reduceLT, Int.reduceLE, Int.reduceEq, ↓reduceIte, not_true, not_false_eq_true, not_true_eq_false, and_self, true_and, and_true, false_and, and_false, Decidable.not_not, stv1, stv2, stv3, stv4]
def cmV (r : Nat → Nat) (n p : Nat) : Nat := seF (fun q => decide (r q = r p)) n 0 0
def coR (r : Nat → Nat) (n : Nat) (σ : IM) (p b : Nat) : Int := if b = 6 then (r p : Int) else if b = 7 then (cmV r n p : Int) else σ (34 + p) b
theorem coX_L {K : Mm → Aa} {z : Int32 → Mm → Aa} {n : Nat} {r : Nat → Nat} (hn : n ≤ 6) : ∀ (d i N : Nat) (σ : IM), i + d = n → d < N → σ 44 0 = (n : Int) → (∀ k, k < n → σ 47 k = (r k : Int) ∧ r k < n) → mm_lk z (fX1_findCompanies_L41 K) N (mI i) (enc σ) = K (enc (each σ i n (coR r n σ)))
  | d, i, 0, σ, _, h, _, _ => absurd h (Nat.not_lt_zero d)
  | 0, i, N + 1, σ, h, _, h0, _ => by
    have e : i = n := by omega
    subst e
    rw [mm_lk_s, fX1_findCompanies_L41, each_nil]
    simp (implicitDefEqProofs := false) (maxSteps := 1000000) (disch := omega) only [h0, ↓mm_lt_s, ↓cl_in, ↓cl_wi, ↓cl_has, ↓cl_isP, mL_le, lit_n, litL_n, mL_mI, mL_neg, mm_cl_s, mI_lt, mI_le, mI_eq, enc_at, enc_wr, enc_cp, mI_neg, mI_add, mI_sub, mI_mul, mI_ix, mm_ck_ok, mm_nz_ok, mm_bo_c, mm_bo_m0, mm_bo_m1, b01, Int.toNat_natCast, Int.reduceToNat, Int.reduceNeg, Int.reduceSub, Int.reduceAdd, Int.reduceMul, Int.reduceLT, Int.reduceLE, Int.reduceEq, ↓reduceIte, not_true, not_false_eq_true, not_true_eq_false, and_self, true_and, and_true, false_and, and_false, Decidable.not_not, stv1, stv2, stv3, stv4]
    repeat (first | rw [if_pos (by omega)] | rw [if_neg (by omega)])
  | d + 1, i, N + 1, σ, h, h2, h0, hr => by
    obtain ⟨r1, r2⟩ := hr i (by omega)
    have c1 : ¬ (n : Int) ≤ (i : Int) := by omega
    have CM : fX1_companyOf (mI i) (enc (iw σ (34 + i) 6 (r i))) = some (mI (cmV r n i), enc (iw σ (34 + i) 6 (r i))) := by
      unfold fX1_companyOf
      generalize hfu : mm_fu = NF; have hNF : 4096 ≤ NF := by rw [← hfu]; exact Nat.le_refl _
      simp (implicitDefEqProofs := false) (maxSteps := 1000000) (disch := omega) only [↓mm_lt_s, ↓cl_in, ↓cl_wi, ↓cl_has, ↓cl_isP, mL_le, lit_n, litL_n, mL_mI, mL_neg, mm_cl_s, mI_lt, mI_le, mI_eq, enc_at, enc_wr, enc_cp, mI_neg, mI_add, mI_sub, mI_mul, mI_ix, mm_ck_ok, mm_nz_ok, mm_bo_c, mm_bo_m0, mm_bo_m1, b01, Int.toNat_natCast, Int.reduceToNat, Int.reduceNeg, Int.reduceSub, Int.reduceAdd, Int.reduceMul, Int.reduceLT, Int.reduceLE, Int.reduceEq, ↓reduceIte, not_true, not_false_eq_true, not_true_eq_false, and_self, true_and, and_true, false_and, and_false, Decidable.not_not, stv1, stv2, stv3, stv4]
      have E := comX_L (K := fun x3 m4 => some (x3, m4)) (z := fun _ _ _ => none) (n := n) (a := i) (r := r) (σ := iw σ (34 + i) 6 (r i)) hn (by omega) (by rw [iw_ne (by omega)]; exact h0) (fun k hk => by rw [iw_ne (by omega)]; exact hr k hk) n 0 NF 0 (by omega) (by omega) (by decide)
      rw [cast0] at E
      exact E
    generalize hσ1 : iw (iw σ (34 + i) 6 (r i)) (34 + i) 7 (cmV r n i) = σ1
    have k2 : ∀ a b, a ≠ 34 + i → σ1 a b = σ a b := fun a b hab => by rw [← hσ1, iw_ne (by omega), iw_ne (by omega)]
    have k1 : ∀ b, σ1 (34 + i) b = coR r n σ i b := fun b => by
      rw [← hσ1]
      unfold coR
      by_cases b6 : b = 6
      · rw [if_pos b6, iw_ne (by omega), iw_eq rfl b6]
      · by_cases b7 : b = 7
        · rw [if_neg b6, if_pos b7, iw_eq rfl b7]
        · rw [if_neg b6, if_neg b7, iw_ne (by omega), iw_ne (by omega)]
    rw [← each_step (g := coR r n) (by omega) k1 k2 (fun p b hp => by unfold coR; rw [k2 _ _ (by omega)])]
    rw [← coX_L (K := K) (z := z) (r := r) hn d (i + 1) N σ1 (by omega) (by omega) (by rw [k2 _ _ (by omega)]; exact h0) (fun k hk => by rw [k2 _ _ (by omega)]; exact hr k hk)]
    rw [mm_lk_s, fX1_findCompanies_L41]
    simp (implicitDefEqProofs := false) (maxSteps := 1000000) (disch := omega) only [h0, c1, r1, ↓mm_lt_s, ↓cl_in, ↓cl_wi, ↓cl_has, ↓cl_isP, mL_le, lit_n, litL_n, mL_mI, mL_neg, mm_cl_s, mI_lt, mI_le, mI_eq, enc_at, enc_wr, enc_cp, mI_neg, mI_add, mI_sub, mI_mul, mI_ix, mm_ck_ok, mm_nz_ok, mm_bo_c, mm_bo_m0, mm_bo_m1, b01, Int.toNat_natCast, Int.reduceToNat, Int.reduceNeg, Int.reduceSub, Int.reduceAdd, Int.reduceMul, Int.reduceLT, Int.reduceLE, Int.reduceEq, ↓reduceIte, not_true, not_false_eq_true, not_true_eq_false, and_self, true_and, and_true, false_and, and_false, Decidable.not_not, stv1, stv2, stv3, stv4]
    rw [CM]
    simp (implicitDefEqProofs := false) (maxSteps := 1000000) (disch := omega) only [cast_s, ↓mm_lt_s, ↓cl_in, ↓cl_wi, ↓cl_has, ↓cl_isP, mL_le, lit_n, litL_n, mL_mI, mL_neg, mm_cl_s, mI_lt, mI_le, mI_eq, enc_at, enc_wr, enc_cp, mI_neg, mI_add, mI_sub, mI_mul, mI_ix, mm_ck_ok, mm_nz_ok, mm_bo_c, mm_bo_m0, mm_bo_m1, b01, Int.toNat_natCast, Int.reduceToNat, Int.reduceNeg, Int.reduceSub, Int.reduceAdd, Int.reduceMul, Int.reduceLT, Int.reduceLE, Int.reduceEq, ↓reduceIte, not_true, not_false_eq_true, not_true_eq_false, and_self, true_and, and_true, false_and, and_false, Decidable.not_not, stv1, stv2, stv3, stv4]
    rw [hσ1]
theorem QL.cong {σ τ σ' τ' : IM} {n : Nat} {w : Nat → Nat} (h : QL σ τ n w) (h1 : ∀ a b, keepX a b ∨ (a = 30 ∧ (b = 2 ∨ b = 6 ∨ b = 7)) ∨ a = 32 ∨ (a = 44 ∧ b = 0) ∨ a = 46 ∨ ((34 ≤ a ∧ a < 34 + n) ∧ 1 ≤ b ∧ b < 6) → σ' a b = σ a b) (h2 : ∀ a b, keepM a b ∨ (a = 0 ∧ b = 29) ∨ a = 19 → τ' a b = τ a b) : QL σ' τ' n w := by
  obtain ⟨q1, ⟨q2, q3, q4, q5⟩, ⟨q6, q7⟩, ⟨p0, p1, p2, p3, p4, p5⟩, q8⟩ := h
  have m3 : τ' 0 3 = τ 0 3 := h2 _ _ (Or.inl (by unfold keepM; omega))
  have m1 : ∀ j, τ' 1 j = τ 1 j := fun j => h2 _ _ (Or.inl (by unfold keepM; omega))
  have m2 : ∀ j, τ' 2 j = τ 2 j := fun j => h2 _ _ (Or.inl (by unfold keepM; omega))
  have m01 : τ' 0 1 = τ 0 1 := h2 _ _ (Or.inl (by unfold keepM; omega))
  refine ⟨q1.cong (fun k j hk => h1 k j (Or.inl hk)) (fun k j hk => h2 k j (Or.inl hk)), ⟨q2, ?_, ?_, ?_⟩, ⟨?_, ?_⟩, ⟨?_, ?_, ?_, ?_, ?_, ?_⟩, fun k hk => ?_⟩
  · rw [h1 _ _ (by omega)]; exact q3
  · rw [h1 _ _ (by omega)]; exact q4
  · rw [h2 _ _ (by omega)]; exact q5
  · rw [h1 _ _ (by omega), m3]; exact q6
  · rw [h1 _ _ (by omega)]; exact q7
  · rw [h1 _ _ (by omega), m2]; exact p0
  · rw [h1 _ _ (by omega), m2]; exact p1
  · rw [h1 _ _ (by omega), m2]; exact p2
  · rw [h1 _ _ (by omega)]; exact p3
  · rw [h1 _ _ (by omega)]; exact p4
  · rw [h1 _ _ (by omega)]; exact p5
  · rw [m01, m1, m1, h1 46 _ (by omega), h2 19 _ (by omega), h1 _ 1 (by omega), h1 _ 2 (by omega), h1 _ 3 (by omega), h1 _ 4 (by omega), h1 _ 5 (by omega)]
    exact q8 k hk
theorem QL.WK {σ τ : IM} {n : Nat} {w : Nat → Nat} (h : QL σ τ n w) : WK τ n w := by
  obtain ⟨q1, ⟨q2, q3, q4, q5⟩, -, -, q8⟩ := h
  have nn := q1.now
  refine ⟨⟨q5, q2.2⟩, fun k hk => ?_⟩
  obtain ⟨w1, w2, w3, -⟩ := q8 k hk
  obtain ⟨f1, f2, f3, f4⟩ := q1.folk (w k) w1
  have t2 := f1 2 (by omega)
  have t3 := f1 3 (by omega)
  have e2 : tolLo 2 = 0 ∧ tolHi 2 = 3 := ⟨rfl, rfl⟩
  have e3 : tolLo 3 = 1 ∧ tolHi 3 = 20 := ⟨rfl, rfl⟩
  exact ⟨by omega, w3, by omega, by omega⟩
theorem QL.LD {σ τ : IM} {n : Nat} {w : Nat → Nat} (h : QL σ τ n w) (h0 : ∀ k, k < n → 0 ≤ σ (34 + k) 0 ∧ σ (34 + k) 0 ≤ 499) (h67 : ∀ k, k < n → (0 ≤ σ (34 + k) 6 ∧ σ (34 + k) 6 ≤ 9) ∧ (0 ≤ σ (34 + k) 7 ∧ σ (34 + k) 7 ≤ 1023)) : LD σ n := by
  have hW := h.WK
  obtain ⟨q1, ⟨q2, q3, q4, q5⟩, ⟨q6, q7⟩, ⟨p0, p1, p2, p3, p4, p5⟩, q8⟩ := h
  have nn := q1.now
  have pos : 0 < 2 ^ n := Nat.pow_pos (by decide)
  have le : 2 ^ n ≤ 2 ^ 6 := Nat.pow_le_pow_right (by decide) q2.2
  have lw : ∀ j, j < 6 → 0 ≤ τ 2 j ∧ τ 2 j ≤ 200 := fun j hj => by
    have := (q1.law j hj).2
    have := lawB j
    omega
  have l0 := lw 0 (by omega)
  have l1 := lw 1 (by omega)
  have l2 := lw 2 (by omega)
  refine ⟨⟨q3, by omega⟩, by omega, ?_, fun j hj => ?_, fun k hk => ?_⟩
  · rw [q7]
    have : ((2 ^ n : Nat) : Int) ≤ 64 := by omega
    have : 1 ≤ ((2 ^ n : Nat) : Int) := by omega
    omega
  · have : j = 0 ∨ j = 1 ∨ j = 2 ∨ j = 3 ∨ j = 4 ∨ j = 5 := by omega
    rcases this with rfl | rfl | rfl | rfl | rfl | rfl
    · omega
    · omega
    · omega
    · omega
    · exact p4
    · omega
  · obtain ⟨w1, w2, w3, x1, x2, x3, x4, x5⟩ := q8 k hk
    have pr := hW.pc hk
    unfold pcW at pr
    have x5' : 0 ≤ σ (34 + k) 5 ∧ σ (34 + k) 5 ≤ 1 := by
      rw [x5]
      split <;> omega
    exact ⟨h0 k hk, by omega, by rw [x2]; exact pr, by omega, by omega, x5', (h67 k hk).1, (h67 k hk).2⟩
theorem okC_lt {n : Nat} {r : Nat → Nat} (h : okC n r = true) : ∀ k, k < n → r k < n := fun k hk => by
  unfold okC at h
  rw [List.all_eq_true] at h
  exact of_decide_eq_true (h k (List.mem_range.2 hk))
theorem coLoop {n : Nat} {w : Nat → Nat} : ∀ (f c tried : Nat) (σ τ : IM), ends (nxC n) (okC n) f c = true → tried + f ≤ 1000 → QL σ τ n w → (∀ k, k < n → σ (34 + k) 0 = 0) → (∀ k, k < n → σ 47 k = (dg c k : Int) ∧ τ 20 k = (dg c k : Int)) → BR σ τ n → ∃ σ' τ' : IM, QL σ' τ' n w ∧ BR σ' τ' n ∧ τ' 0 33 ≠ -1 ∧ (∀ (N : Nat), f < N → ∀ (K1 K2 : Mm → Aa) (z : Int32 → Mm → Aa), mm_lk z (fX1_findCompanies_L31 K1 K2) N (mI tried) (enc σ) = K1 (enc σ')) ∧ (∀ (N : Nat), f < N → ∀ (K : Mm → Aa) (z : Int32 → Mm → Aa), mm_lk z (fX7_soonest_L56 K) N (mI 1) (enc τ) = K (enc τ')) := by
  intro f
  induction f with
  | zero =>
    intro c tried σ τ hE
    exact absurd hE (by unfold ends; decide)
  | succ f ih =>
    intro c tried σ τ hE hT hQ h00 hrow hB
    obtain ⟨q1, ⟨q2, q3, q4, q5⟩, ⟨q6, q7⟩, ⟨p0, p1, p2, p3, p4, p5⟩, q8⟩ := id hQ
    unfold ends at hE
    rw [Bool.and_eq_true] at hE
    obtain ⟨hok, hnx⟩ := hE
    have rlt := okC_lt hok
    -- the companies are set
    have CX := fun K z NF (hNF : n < NF) => coX_L (K := K) (z := z) (r := dg c) q2.2 n 0 NF σ (by omega) hNF q4 (fun k hk => ⟨(hrow k hk).1, rlt k hk⟩)
    rw [cast0] at CX
    generalize hσ1 : each σ 0 n (coR (dg c) n σ) = σ1 at *
    have r1 : ∀ k b, k < n → σ1 (34 + k) b = coR (dg c) n σ k b := fun k b hk => by rw [← hσ1, each_in (by omega) hk]
    have f1 : ∀ a b, ¬ ((34 ≤ a ∧ a < 34 + n) ∧ (b = 6 ∨ b = 7)) → σ1 a b = σ a b := fun a b hab => by
      by_cases x : 34 ≤ a ∧ a < 34 + n
      · obtain ⟨p, rfl⟩ : ∃ p, a = 34 + p := ⟨a - 34, by omega⟩
        rw [r1 p b (by omega)]
        unfold coR
        rw [if_neg (by omega), if_neg (by omega)]
      · rw [← hσ1, each_ne (by omega)]
    have Q1 : QL σ1 τ n w := hQ.cong (fun a b h => f1 a b (by unfold keepX at h; omega)) (fun _ _ _ => rfl)
    have cml : ∀ k, k < n → cmV (dg c) n k < 1024 := fun k hk => seF_lt n 0 0 (by omega) (by decide)
    have LD1 : LD σ1 n := Q1.LD (fun k hk => by rw [f1 _ _ (by omega), h00 k hk]; omega) (fun k hk => by
      have e6 : σ1 (34 + k) 6 = (dg c k : Int) := by rw [r1 k 6 hk]; rfl
      have e7 : σ1 (34 + k) 7 = (cmV (dg c) n k : Int) := by rw [r1 k 7 hk]; rfl
      have := rlt k hk
      have := cml k hk
      rw [e6, e7]
      omega)
    have l0 := (q1.law 0 (by omega)).2
    have l1 := (q1.law 1 (by omega)).2
    have l2 := (q1.law 2 (by omega)).2
    have b0 := lawB 0
    have b2 := lawB 2
    have e1 : lawLo 1 = 0 ∧ lawHi 1 = 2 := ⟨rfl, rfl⟩
    have T1 : CT σ1 τ n w (dg c) := by
      refine ⟨⟨⟨q2, ?_⟩, ?_, ?_, ?_, ?_, ?_⟩, hQ.WK, fun k hk => ?_⟩
      · rw [f1 _ _ (by omega)]; exact q3
      · rw [f1 _ _ (by omega)]; exact q7
      · rw [f1 _ _ (by omega)]; omega
      · rw [f1 _ _ (by omega)]; omega
      · rw [f1 _ _ (by omega)]; exact p3
      · rw [f1 _ _ (by omega)]; exact p5
      · obtain ⟨w1, w2, w3, x1, x2, x3, x4, x5⟩ := q8 k hk
        refine ⟨⟨(hrow k hk).2, rlt k hk⟩, ?_, ?_, ?_, ?_, fun q hq => ?_⟩
        · rw [f1 _ _ (by omega)]; exact x2
        · rw [f1 _ _ (by omega)]; exact x3
        · rw [f1 _ _ (by omega)]; exact x5
        · rw [r1 k 6 hk]; rfl
        · have e7 : σ1 (34 + k) 7 = (cmV (dg c) n k : Int) := by rw [r1 k 7 hk]; rfl
          rw [e7, bitZ_n]
          have tb := seF_tb (g := fun q => decide (dg c q = dg c k)) (q := q) n 0 0
          unfold cmV
          constructor
          · intro x
            have x' : seF (fun q => decide (dg c q = dg c k)) n 0 0 / 2 ^ q % 2 = 1 := by omega
            rcases tb.1 x' with y | ⟨-, y⟩
            · exact absurd y (tb_0 q)
            · exact of_decide_eq_true y
          · intro x
            have := tb.2 (Or.inr ⟨⟨by omega, by omega⟩, decide_eq_true x⟩)
            omega
    obtain ⟨σ2, τ2, D1, D2, D3, D4, D5⟩ := dayCo LD1 T1 (fun k hk => by rw [f1 _ _ (by omega), f1 _ _ (by omega)]; exact ⟨h00 k hk, (q8 k hk).2.2.2.1⟩) (by rw [f1 _ _ (by omega)]; exact q6) (by rw [f1 _ _ (by omega)]; omega)
    have g2 : ∀ a b, frX n a b → ¬ ((34 ≤ a ∧ a < 34 + n) ∧ (b = 6 ∨ b = 7)) → σ2 a b = σ a b := fun a b h h' => by rw [D4 a b h, f1 a b h']
    have Q2 : QL σ2 τ2 n w := hQ.cong (fun a b h => g2 a b ⟨by unfold keepX at h; omega, by unfold keepX at h; omega, by unfold keepX at h; omega⟩ (by unfold keepX at h; omega)) (fun a b h => D5 a b ⟨by unfold keepM at h; omega, by unfold keepM at h; omega, by unfold keepM at h; omega⟩)
    have B2 : BR σ2 τ2 n := by
      unfold BR
      rw [g2 44 2 ⟨by omega, by omega, by omega⟩ (by omega), g2 44 3 ⟨by omega, by omega, by omega⟩ (by omega), D5 0 33 ⟨by omega, by omega, by omega⟩, D5 0 34 ⟨by omega, by omega, by omega⟩]
      rcases hB with x | ⟨x1, x2, x3⟩
      · exact Or.inl x
      · refine Or.inr ⟨x1, x2, fun k hk => ?_⟩
        rw [g2 45 k ⟨by omega, by omega, by omega⟩ (by omega), D5 21 k ⟨by omega, by omega, by omega⟩]
        exact x3 k hk
    have row2 : ∀ k, k < n → σ2 47 k = (dg c k : Int) ∧ τ2 20 k = (dg c k : Int) := fun k hk => by
      rw [g2 47 k ⟨by omega, by omega, by omega⟩ (by omega), D5 20 k ⟨by omega, by omega, by omega⟩]
      exact hrow k hk
    obtain ⟨σ3, τ3, K1, K2, K3, K4, K5, K6⟩ := keepR q2 D1 (by rw [g2 30 6 ⟨by omega, by omega, by omega⟩ (by omega)]; exact q3) (by rw [g2 44 0 ⟨by omega, by omega, by omega⟩ (by omega)]; exact q4) (by rw [D5 0 29 ⟨by omega, by omega, by omega⟩]; exact q5) B2 D3 (fun k hk => by
      have := row2 k hk
      have := rlt k hk
      omega)
    have Q3 : QL σ3 τ3 n w := Q2.cong (fun a b h => K5 a b (by unfold keepX at h; omega) (by unfold keepX at h; omega)) (fun a b h => K6 a b (by unfold keepM at h; omega) (by unfold keepM at h; omega))
    have row3 : ∀ k, k < n → σ3 47 k = (dg c k : Int) ∧ τ3 20 k = (dg c k : Int) ∧ dg c k < n := fun k hk => by
      rw [K5 47 k (by omega) (by omega), K6 20 k (by omega) (by omega)]
      exact ⟨(row2 k hk).1, (row2 k hk).2, rlt k hk⟩
    have ct : ¬ (1000 : Int) ≤ (tried : Int) := by omega
    have o : ¬ (1 : Int) = 0 := by omega
    rcases nxcR q2 Q3.2.1.2.2.1 Q3.2.1.2.2.2 row3 with ⟨N1, N2, N3⟩ | ⟨r', σ4, τ4, N1, N2, N3, N4, N5, N6⟩
    · refine ⟨σ3, τ3, Q3, K3, K4, fun N hN Ka Kb z => ?_, fun N hN K z => ?_⟩
      · obtain ⟨N, rfl⟩ : ∃ M, N = M + 1 := ⟨N - 1, by omega⟩
        rw [mm_lk_s, fX1_findCompanies_L31]
        generalize hfu : mm_fu = NF; have hNF : 4096 ≤ NF := by rw [← hfu]; exact Nat.le_refl _
        simp (implicitDefEqProofs := false) (maxSteps := 1000000) (disch := omega) only [ct, ↓mm_lt_s, ↓cl_in, ↓cl_wi, ↓cl_has, ↓cl_isP, mL_le, lit_n, litL_n, mL_mI, mL_neg, mm_cl_s, mI_lt, mI_le, mI_eq, enc_at, enc_wr, enc_cp, mI_neg, mI_add, mI_sub, mI_mul, mI_ix, mm_ck_ok, mm_nz_ok, mm_bo_c, mm_bo_m0, mm_bo_m1, b01, Int.toNat_natCast, Int.reduceToNat, Int.reduceNeg, Int.reduceSub, Int.reduceAdd, Int.reduceMul, Int.reduceLT, Int.reduceLE, Int.reduceEq, ↓reduceIte, not_true, not_false_eq_true, not_true_eq_false, and_self, true_and, and_true, false_and, and_false, Decidable.not_not, stv1, stv2, stv3, stv4]
        rw [CX _ _ NF (by omega)]
        rw [K1]
        simp (implicitDefEqProofs := false) (maxSteps := 1000000) (disch := omega) only [↓mm_lt_s, ↓cl_in, ↓cl_wi, ↓cl_has, ↓cl_isP, mL_le, lit_n, litL_n, mL_mI, mL_neg, mm_cl_s, mI_lt, mI_le, mI_eq, enc_at, enc_wr, enc_cp, mI_neg, mI_add, mI_sub, mI_mul, mI_ix, mm_ck_ok, mm_nz_ok, mm_bo_c, mm_bo_m0, mm_bo_m1, b01, Int.toNat_natCast, Int.reduceToNat, Int.reduceNeg, Int.reduceSub, Int.reduceAdd, Int.reduceMul, Int.reduceLT, Int.reduceLE, Int.reduceEq, ↓reduceIte, not_true, not_false_eq_true, not_true_eq_false, and_self, true_and, and_true, false_and, and_false, Decidable.not_not, stv1, stv2, stv3, stv4]
        rw [N2]
        simp (implicitDefEqProofs := false) (maxSteps := 1000000) (disch := omega) only [↓mm_lt_s, ↓cl_in, ↓cl_wi, ↓cl_has, ↓cl_isP, mL_le, lit_n, litL_n, mL_mI, mL_neg, mm_cl_s, mI_lt, mI_le, mI_eq, enc_at, enc_wr, enc_cp, mI_neg, mI_add, mI_sub, mI_mul, mI_ix, mm_ck_ok, mm_nz_ok, mm_bo_c, mm_bo_m0, mm_bo_m1, b01, Int.toNat_natCast, Int.reduceToNat, Int.reduceNeg, Int.reduceSub, Int.reduceAdd, Int.reduceMul, Int.reduceLT, Int.reduceLE, Int.reduceEq, ↓reduceIte, not_true, not_false_eq_true, not_true_eq_false, and_self, true_and, and_true, false_and, and_false, Decidable.not_not, stv1, stv2, stv3, stv4]
      · obtain ⟨N, rfl⟩ : ∃ M, N = M + 2 := ⟨N - 2, by omega⟩
        rw [show N + 2 = (N + 1) + 1 from rfl, mm_lk_s, fX7_soonest_L56]
        simp (implicitDefEqProofs := false) (maxSteps := 1000000) (disch := omega) only [o, ↓mm_lt_s, ↓cl_in, ↓cl_wi, ↓cl_has, ↓cl_isP, mL_le, lit_n, litL_n, mL_mI, mL_neg, mm_cl_s, mI_lt, mI_le, mI_eq, enc_at, enc_wr, enc_cp, mI_neg, mI_add, mI_sub, mI_mul, mI_ix, mm_ck_ok, mm_nz_ok, mm_bo_c, mm_bo_m0, mm_bo_m1, b01, Int.toNat_natCast, Int.reduceToNat, Int.reduceNeg, Int.reduceSub, Int.reduceAdd, Int.reduceMul, Int.reduceLT, Int.reduceLE, Int.reduceEq, ↓reduceIte, not_true, not_false_eq_true, not_true_eq_false, and_self, true_and, and_true, false_and, and_false, Decidable.not_not, stv1, stv2, stv3, stv4]
        rw [D2]
        simp (implicitDefEqProofs := false) (maxSteps := 1000000) (disch := omega) only [↓mm_lt_s, ↓cl_in, ↓cl_wi, ↓cl_has, ↓cl_isP, mL_le, lit_n, litL_n, mL_mI, mL_neg, mm_cl_s, mI_lt, mI_le, mI_eq, enc_at, enc_wr, enc_cp, mI_neg, mI_add, mI_sub, mI_mul, mI_ix, mm_ck_ok, mm_nz_ok, mm_bo_c, mm_bo_m0, mm_bo_m1, b01, Int.toNat_natCast, Int.reduceToNat, Int.reduceNeg, Int.reduceSub, Int.reduceAdd, Int.reduceMul, Int.reduceLT, Int.reduceLE, Int.reduceEq, ↓reduceIte, not_true, not_false_eq_true, not_true_eq_false, and_self, true_and, and_true, false_and, and_false, Decidable.not_not, stv1, stv2, stv3, stv4]
        rw [K2]
        simp (implicitDefEqProofs := false) (maxSteps := 1000000) (disch := omega) only [↓mm_lt_s, ↓cl_in, ↓cl_wi, ↓cl_has, ↓cl_isP, mL_le, lit_n, litL_n, mL_mI, mL_neg, mm_cl_s, mI_lt, mI_le, mI_eq, enc_at, enc_wr, enc_cp, mI_neg, mI_add, mI_sub, mI_mul, mI_ix, mm_ck_ok, mm_nz_ok, mm_bo_c, mm_bo_m0, mm_bo_m1, b01, Int.toNat_natCast, Int.reduceToNat, Int.reduceNeg, Int.reduceSub, Int.reduceAdd, Int.reduceMul, Int.reduceLT, Int.reduceLE, Int.reduceEq, ↓reduceIte, not_true, not_false_eq_true, not_true_eq_false, and_self, true_and, and_true, false_and, and_false, Decidable.not_not, stv1, stv2, stv3, stv4]
        rw [N3]
        simp (implicitDefEqProofs := false) (maxSteps := 1000000) (disch := omega) only [↓mm_lt_s, ↓cl_in, ↓cl_wi, ↓cl_has, ↓cl_isP, mL_le, lit_n, litL_n, mL_mI, mL_neg, mm_cl_s, mI_lt, mI_le, mI_eq, enc_at, enc_wr, enc_cp, mI_neg, mI_add, mI_sub, mI_mul, mI_ix, mm_ck_ok, mm_nz_ok, mm_bo_c, mm_bo_m0, mm_bo_m1, b01, Int.toNat_natCast, Int.reduceToNat, Int.reduceNeg, Int.reduceSub, Int.reduceAdd, Int.reduceMul, Int.reduceLT, Int.reduceLE, Int.reduceEq, ↓reduceIte, not_true, not_false_eq_true, not_true_eq_false, and_self, true_and, and_true, false_and, and_false, Decidable.not_not, stv1, stv2, stv3, stv4]
        rw [mm_lk_s, fX7_soonest_L56]
        simp (implicitDefEqProofs := false) (maxSteps := 1000000) (disch := omega) only [↓mm_lt_s, ↓cl_in, ↓cl_wi, ↓cl_has, ↓cl_isP, mL_le, lit_n, litL_n, mL_mI, mL_neg, mm_cl_s, mI_lt, mI_le, mI_eq, enc_at, enc_wr, enc_cp, mI_neg, mI_add, mI_sub, mI_mul, mI_ix, mm_ck_ok, mm_nz_ok, mm_bo_c, mm_bo_m0, mm_bo_m1, b01, Int.toNat_natCast, Int.reduceToNat, Int.reduceNeg, Int.reduceSub, Int.reduceAdd, Int.reduceMul, Int.reduceLT, Int.reduceLE, Int.reduceEq, ↓reduceIte, not_true, not_false_eq_true, not_true_eq_false, and_self, true_and, and_true, false_and, and_false, Decidable.not_not, stv1, stv2, stv3, stv4]
    · rw [N1] at hnx
      dsimp only at hnx
      rw [Bool.and_eq_true, Bool.and_eq_true, Bool.and_eq_true, Bool.and_eq_true, Bool.and_eq_true, Bool.and_eq_true, decide_eq_true_iff, decide_eq_true_iff, decide_eq_true_iff, decide_eq_true_iff, decide_eq_true_iff, decide_eq_true_iff] at hnx
      obtain ⟨⟨⟨⟨⟨⟨d0, d1⟩, d2⟩, d3⟩, d4⟩, d5⟩, hE'⟩ := hnx
      have dd := dg_en d0 d1 d2 d3 d4 d5
      have Q4 : QL σ4 τ4 n w := Q3.cong (fun a b h => N5 a b (by unfold keepX at h; omega)) (fun a b h => N6 a b (by unfold keepM at h; omega))
      have B4 : BR σ4 τ4 n := by
        unfold BR
        rw [N5 44 2 (by omega), N5 44 3 (by omega), N6 0 33 (by omega), N6 0 34 (by omega)]
        rcases K3 with x | ⟨x1, x2, x3⟩
        · exact Or.inl x
        · refine Or.inr ⟨x1, x2, fun k hk => ?_⟩
          rw [N5 45 k (by omega), N6 21 k (by omega)]
          exact x3 k hk
      obtain ⟨σ', τ', i1, i2, i3, i4, i5⟩ := ih (en6 r') (tried + 1) σ4 τ4 hE' (by omega) Q4 (fun k hk => by rw [N5 _ _ (by omega), K5 _ _ (by omega) (by omega), g2 _ _ ⟨by omega, by omega, by omega⟩ (by omega)]; exact h00 k hk) (fun k hk => by rw [dd k (by omega)]; exact N4 k hk) B4
      refine ⟨σ', τ', i1, i2, i3, fun N hN Ka Kb z => ?_, fun N hN K z => ?_⟩
      · obtain ⟨N, rfl⟩ : ∃ M, N = M + 1 := ⟨N - 1, by omega⟩
        rw [← i4 N (by omega) Ka Kb z, mm_lk_s, fX1_findCompanies_L31]
        generalize hfu : mm_fu = NF; have hNF : 4096 ≤ NF := by rw [← hfu]; exact Nat.le_refl _
        simp (implicitDefEqProofs := false) (maxSteps := 1000000) (disch := omega) only [ct, ↓mm_lt_s, ↓cl_in, ↓cl_wi, ↓cl_has, ↓cl_isP, mL_le, lit_n, litL_n, mL_mI, mL_neg, mm_cl_s, mI_lt, mI_le, mI_eq, enc_at, enc_wr, enc_cp, mI_neg, mI_add, mI_sub, mI_mul, mI_ix, mm_ck_ok, mm_nz_ok, mm_bo_c, mm_bo_m0, mm_bo_m1, b01, Int.toNat_natCast, Int.reduceToNat, Int.reduceNeg, Int.reduceSub, Int.reduceAdd, Int.reduceMul, Int.reduceLT, Int.reduceLE, Int.reduceEq, ↓reduceIte, not_true, not_false_eq_true, not_true_eq_false, and_self, true_and, and_true, false_and, and_false, Decidable.not_not, stv1, stv2, stv3, stv4]
        rw [CX _ _ NF (by omega)]
        rw [K1]
        simp (implicitDefEqProofs := false) (maxSteps := 1000000) (disch := omega) only [↓mm_lt_s, ↓cl_in, ↓cl_wi, ↓cl_has, ↓cl_isP, mL_le, lit_n, litL_n, mL_mI, mL_neg, mm_cl_s, mI_lt, mI_le, mI_eq, enc_at, enc_wr, enc_cp, mI_neg, mI_add, mI_sub, mI_mul, mI_ix, mm_ck_ok, mm_nz_ok, mm_bo_c, mm_bo_m0, mm_bo_m1, b01, Int.toNat_natCast, Int.reduceToNat, Int.reduceNeg, Int.reduceSub, Int.reduceAdd, Int.reduceMul, Int.reduceLT, Int.reduceLE, Int.reduceEq, ↓reduceIte, not_true, not_false_eq_true, not_true_eq_false, and_self, true_and, and_true, false_and, and_false, Decidable.not_not, stv1, stv2, stv3, stv4]
        rw [N2]
        simp (implicitDefEqProofs := false) (maxSteps := 1000000) (disch := omega) only [o, cast_s, ↓mm_lt_s, ↓cl_in, ↓cl_wi, ↓cl_has, ↓cl_isP, mL_le, lit_n, litL_n, mL_mI, mL_neg, mm_cl_s, mI_lt, mI_le, mI_eq, enc_at, enc_wr, enc_cp, mI_neg, mI_add, mI_sub, mI_mul, mI_ix, mm_ck_ok, mm_nz_ok, mm_bo_c, mm_bo_m0, mm_bo_m1, b01, Int.toNat_natCast, Int.reduceToNat, Int.reduceNeg, Int.reduceSub, Int.reduceAdd, Int.reduceMul, Int.reduceLT, Int.reduceLE, Int.reduceEq, ↓reduceIte, not_true, not_false_eq_true, not_true_eq_false, and_self, true_and, and_true, false_and, and_false, Decidable.not_not, stv1, stv2, stv3, stv4]
      · obtain ⟨N, rfl⟩ : ∃ M, N = M + 1 := ⟨N - 1, by omega⟩
        rw [← i5 N (by omega) K z, mm_lk_s, fX7_soonest_L56]
        simp (implicitDefEqProofs := false) (maxSteps := 1000000) (disch := omega) only [o, ↓mm_lt_s, ↓cl_in, ↓cl_wi, ↓cl_has, ↓cl_isP, mL_le, lit_n, litL_n, mL_mI, mL_neg, mm_cl_s, mI_lt, mI_le, mI_eq, enc_at, enc_wr, enc_cp, mI_neg, mI_add, mI_sub, mI_mul, mI_ix, mm_ck_ok, mm_nz_ok, mm_bo_c, mm_bo_m0, mm_bo_m1, b01, Int.toNat_natCast, Int.reduceToNat, Int.reduceNeg, Int.reduceSub, Int.reduceAdd, Int.reduceMul, Int.reduceLT, Int.reduceLE, Int.reduceEq, ↓reduceIte, not_true, not_false_eq_true, not_true_eq_false, and_self, true_and, and_true, false_and, and_false, Decidable.not_not, stv1, stv2, stv3, stv4]
        rw [D2]
        simp (implicitDefEqProofs := false) (maxSteps := 1000000) (disch := omega) only [↓mm_lt_s, ↓cl_in, ↓cl_wi, ↓cl_has, ↓cl_isP, mL_le, lit_n, litL_n, mL_mI, mL_neg, mm_cl_s, mI_lt, mI_le, mI_eq, enc_at, enc_wr, enc_cp, mI_neg, mI_add, mI_sub, mI_mul, mI_ix, mm_ck_ok, mm_nz_ok, mm_bo_c, mm_bo_m0, mm_bo_m1, b01, Int.toNat_natCast, Int.reduceToNat, Int.reduceNeg, Int.reduceSub, Int.reduceAdd, Int.reduceMul, Int.reduceLT, Int.reduceLE, Int.reduceEq, ↓reduceIte, not_true, not_false_eq_true, not_true_eq_false, and_self, true_and, and_true, false_and, and_false, Decidable.not_not, stv1, stv2, stv3, stv4]
        rw [K2]
        simp (implicitDefEqProofs := false) (maxSteps := 1000000) (disch := omega) only [↓mm_lt_s, ↓cl_in, ↓cl_wi, ↓cl_has, ↓cl_isP, mL_le, lit_n, litL_n, mL_mI, mL_neg, mm_cl_s, mI_lt, mI_le, mI_eq, enc_at, enc_wr, enc_cp, mI_neg, mI_add, mI_sub, mI_mul, mI_ix, mm_ck_ok, mm_nz_ok, mm_bo_c, mm_bo_m0, mm_bo_m1, b01, Int.toNat_natCast, Int.reduceToNat, Int.reduceNeg, Int.reduceSub, Int.reduceAdd, Int.reduceMul, Int.reduceLT, Int.reduceLE, Int.reduceEq, ↓reduceIte, not_true, not_false_eq_true, not_true_eq_false, and_self, true_and, and_true, false_and, and_false, Decidable.not_not, stv1, stv2, stv3, stv4]
        rw [N3]
        simp (implicitDefEqProofs := false) (maxSteps := 1000000) (disch := omega) only [↓mm_lt_s, ↓cl_in, ↓cl_wi, ↓cl_has, ↓cl_isP, mL_le, lit_n, litL_n, mL_mI, mL_neg, mm_cl_s, mI_lt, mI_le, mI_eq, enc_at, enc_wr, enc_cp, mI_neg, mI_add, mI_sub, mI_mul, mI_ix, mm_ck_ok, mm_nz_ok, mm_bo_c, mm_bo_m0, mm_bo_m1, b01, Int.toNat_natCast, Int.reduceToNat, Int.reduceNeg, Int.reduceSub, Int.reduceAdd, Int.reduceMul, Int.reduceLT, Int.reduceLE, Int.reduceEq, ↓reduceIte, not_true, not_false_eq_true, not_true_eq_false, and_self, true_and, and_true, false_and, and_false, Decidable.not_not, stv1, stv2, stv3, stv4]
