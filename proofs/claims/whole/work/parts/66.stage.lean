/-! soonest: a minute of the reference -/
abbrev actP (τ : IM) (n : Nat) (c : Int) : Prop := rdF τ c n 0 0 = 1 ∧ alF τ c n 0 1 = 1
abbrev pnP (τ : IM) (w : Nat → Nat) (n c : Nat) : Prop := actP τ n (c : Int) ∧ onF τ w (c : Int) n 0 0 = 1
abbrev gonP (τ : IM) (n c k : Nat) : Prop := τ 20 k < (c : Int) ∧ actP τ n (τ 20 k)
def SC (τ : IM) (t : Int) (n c : Nat) : IM := fun a b => if a = 22 ∧ b < n ∧ gonP τ n c b then t else τ a b
def lfC (τ : IM) (n c : Nat) : Nat := cN (fun k => gonP τ n c k) n
def spC (τ : IM) (w : Nat → Nat) (n c : Nat) : Nat := cN (fun k => gonP τ n c k ∧ τ 1 (7 * w k + 2) = 3) n
def plC (τ : IM) (w : Nat → Nat) (n c : Nat) : Nat := cN (fun c => pnP τ w n c) c
theorem SC_ne {τ : IM} {t : Int} {n c a b : Nat} (h : ¬ (a = 22 ∧ b < n)) : SC τ t n c a b = τ a b := if_neg (fun x => h ⟨x.1, x.2.1⟩)
theorem SC_rd {τ : IM} {t : Int} {n c : Nat} : rdF (SC τ t n c) (c : Int) n 0 0 = rdF τ (c : Int) n 0 0 := by
  have key : rdF (SC τ t n c) (c : Int) n 0 0 = 1 ↔ rdF τ (c : Int) n 0 0 = 1 := by
    rw [rdF_iff, rdF_iff]
    have e : ∀ k, k < n → τ 20 k = (c : Int) → SC τ t n c 22 k = τ 22 k := fun k hk h => if_neg (fun x => by have := x.2.2.1; omega)
    have e20 : ∀ k, SC τ t n c 20 k = τ 20 k := fun k => SC_ne (by omega)
    constructor
    · rintro (x | ⟨k, x1, x2, x3⟩)
      · exact Or.inl x
      · rw [e20] at x2
        rw [e k (by omega) x2] at x3
        exact Or.inr ⟨k, x1, x2, x3⟩
    · rintro (x | ⟨k, x1, x2, x3⟩)
      · exact Or.inl x
      · exact Or.inr ⟨k, x1, by rw [e20]; exact x2, by rw [e k (by omega) x2]; exact x3⟩
  rcases rdF_01 (τ := SC τ t n c) (c := (c : Int)) n 0 0 (Or.inl rfl) with a | a
  · rcases rdF_01 (τ := τ) (c := (c : Int)) n 0 0 (Or.inl rfl) with b | b
    · rw [a, b]
    · have := key.2 b
      omega
  · rw [a, key.1 a]
theorem alF_cong {τ τ1 : IM} {c : Int} (h1 : ∀ k, τ1 20 k = τ 20 k) (h2 : ∀ k, τ1 8 k = τ 8 k) : ∀ d i f, alF τ1 c d i f = alF τ c d i f
  | 0, _, _ => rfl
  | d + 1, i, f => by
    unfold alF
    rw [h1, h2]
    exact alF_cong h1 h2 d (i + 1) _
theorem stageL {n : Nat} {w : Nat → Nat} {t left : Int} {τ : IM} (ht : 0 ≤ t ∧ t ≤ 1000) (hW : WK τ n w) (hl : 0 ≤ left ∧ left ≤ 6) (hB : ∀ k, k < n → (0 ≤ τ 20 k ∧ τ 20 k < n) ∧ (-1 ≤ τ 22 k ∧ τ 22 k ≤ 1000) ∧ (0 ≤ τ 8 k ∧ τ 8 k ≤ 1)) : ∀ (d c : Nat), c + d = n → ∀ (N : Nat), d < N → ∀ (K : Int32 → Int32 → Int32 → Mm → Aa) (z : Int32 → Int32 → Int32 → Int32 → Mm → Aa), mm_lk z (fX7_goCompanies_L44 (mI t) K) N (mI (left - (lfC τ n c : Int))) (mI (plC τ w n c)) (mI (spC τ w n c)) (mI c) (enc (SC τ t n c)) = K (mI (left - (lfC τ n n : Int))) (mI (plC τ w n n)) (mI (spC τ w n n)) (enc (SC τ t n n)) := by
  have h29 := hW.1.1
  have h6 := hW.1.2
  intro d
  induction d with
  | zero =>
    intro c h N hN K z
    have e : c = n := by omega
    subst e
    obtain ⟨N, rfl⟩ : ∃ M, N = M + 1 := ⟨N - 1, by omega⟩
    have g29 : SC τ t c c 0 29 = (c : Int) := by rw [SC_ne (by omega)]; exact h29
    rw [mm_lk_s, fX7_goCompanies_L44]
    simp (implicitDefEqProofs := false) (maxSteps := 1000000) (disch := omega) only [g29, ↓mm_lt_s, ↓cl_in, ↓cl_wi, ↓cl_has, ↓cl_isP, mL_le, lit_n, litL_n, mL_mI, mL_neg, mm_cl_s, mI_lt, mI_le, mI_eq, enc_at, enc_wr, enc_cp, mI_neg, mI_add, mI_sub, mI_mul, mI_ix, mm_ck_ok, mm_nz_ok, mm_bo_c, mm_bo_m0, mm_bo_m1, b01, Int.toNat_natCast, Int.reduceToNat, Int.reduceNeg, Int.reduceSub, Int.reduceAdd, Int.reduceMul, Int.reduceLT, Int.reduceLE, Int.reduceEq, ↓reduceIte, not_true, not_false_eq_true, not_true_eq_false, and_self, true_and, and_true, false_and, and_false, Decidable.not_not, stv1, stv2, stv3, stv4]
    repeat (first | rw [if_pos (by omega)] | rw [if_neg (by omega)])
  | succ d ih =>
    intro c h N hN K z
    obtain ⟨N, rfl⟩ : ∃ M, N = M + 1 := ⟨N - 1, by omega⟩
    have g29 : SC τ t n c 0 29 = (n : Int) := by rw [SC_ne (by omega)]; exact h29
    have c1 : ¬ (n : Int) ≤ (c : Int) := by omega
    have W1 : WK (SC τ t n c) n w := hW.cong (SC_ne (by omega)) (fun b => SC_ne (by omega)) (fun b => SC_ne (by omega))
    have e20 : ∀ k, SC τ t n c 20 k = τ 20 k := fun k => SC_ne (by omega)
    have e1 : ∀ k, SC τ t n c 1 k = τ 1 k := fun k => SC_ne (by omega)
    have e8 : ∀ k, SC τ t n c 8 k = τ 8 k := fun k => SC_ne (by omega)
    have eal := alF_cong (τ := τ) (τ1 := SC τ t n c) (c := (c : Int)) e20 e8 n 0 1
    have eon := onF_cong (τ := τ) (τ1 := SC τ t n c) (w := w) (c := (c : Int)) e20 e1 n 0 0
    have FL := fun K z NF (hNF : n < NF) => flagC_L (K := K) (z := z) (n := n) (c := (c : Int)) (τ := SC τ t n c) h6 (by omega) g29 (fun k hk => by
      obtain ⟨b1, b2, b3⟩ := hB k hk
      rw [e20, e8]
      refine ⟨by omega, ?_, b3⟩
      unfold SC
      split <;> omega) n 0 NF 0 1 (by omega) hNF (Or.inl rfl) (Or.inr rfl)
    rw [SC_rd, eal] at FL
    have bl : lfC τ n c ≤ 6 := Nat.le_trans (cN_le n) h6
    have bp : plC τ w n c ≤ c := cN_le c
    have bs : spC τ w n c ≤ 6 := Nat.le_trans (cN_le n) h6
    have on01 := onF_01 (τ := τ) (w := w) (c := (c : Int)) n 0 0 (Or.inl rfl)
    have pS : plC τ w n (c + 1) = plC τ w n c + (if pnP τ w n c then 1 else 0) := rfl
    have IH := ih (c + 1) (by omega) N (by omega) K z
    by_cases act : actP τ n (c : Int)
    · obtain ⟨τ', q1, q2, q3⟩ := compL (n := n) (w := w) (c := (c : Int)) (t := t) (by omega) ht n 0 (SC τ t n c) (left - (lfC τ n c : Int)) (spC τ w n c : Int) 0 (by omega) W1 (fun k hk => by rw [e20]; have := (hB k hk).1; omega) (by omega) (by omega) (Or.inl rfl)
      have eA : cN (fun k => SC τ t n c 20 k = (c : Int)) n = cN (fun k => τ 20 k = (c : Int)) n := cN_cong n (fun k _ => by rw [e20])
      have eB : cN (fun k => SC τ t n c 20 k = (c : Int) ∧ SC τ t n c 1 (7 * w k + 2) = 3) n = cN (fun k => τ 20 k = (c : Int) ∧ τ 1 (7 * w k + 2) = 3) n := cN_cong n (fun k _ => by rw [e20, e1])
      have lS : lfC τ n (c + 1) = lfC τ n c + cN (fun k => τ 20 k = (c : Int)) n := cN_add n (fun k hk => by
        unfold gonP
        constructor
        · constructor
          · rintro ⟨x1, x2⟩
            by_cases y : τ 20 k < (c : Int)
            · exact Or.inl ⟨y, x2⟩
            · exact Or.inr (by omega)
          · rintro (⟨x1, x2⟩ | x)
            · exact ⟨by omega, x2⟩
            · exact ⟨by omega, by rw [x]; exact act⟩
        · rintro ⟨⟨x1, -⟩, x2⟩
          omega)
      have sS : spC τ w n (c + 1) = spC τ w n c + cN (fun k => τ 20 k = (c : Int) ∧ τ 1 (7 * w k + 2) = 3) n := cN_add n (fun k hk => by
        unfold gonP
        constructor
        · constructor
          · rintro ⟨⟨x1, x2⟩, x3⟩
            by_cases y : τ 20 k < (c : Int)
            · exact Or.inl ⟨⟨y, x2⟩, x3⟩
            · exact Or.inr ⟨by omega, x3⟩
          · rintro (⟨⟨x1, x2⟩, x3⟩ | ⟨x, x3⟩)
            · exact ⟨⟨by omega, x2⟩, x3⟩
            · exact ⟨⟨by omega, by rw [x]; exact act⟩, x3⟩
        · rintro ⟨⟨⟨x1, -⟩, -⟩, x2, -⟩
          omega)
      have mem : τ' = SC τ t n (c + 1) := by
        funext a b
        by_cases y : a = 22 ∧ b < n
        · rw [y.1, q2 b (by omega) y.2, e20]
          unfold SC gonP
          by_cases x : τ 20 b = (c : Int)
          · rw [if_pos x, if_pos ⟨rfl, y.2, by omega, by rw [x]; exact act⟩]
          · rw [if_neg x]
            by_cases x2 : τ 20 b < (c : Int) ∧ actP τ n (τ 20 b)
            · rw [if_pos ⟨rfl, y.2, x2⟩, if_pos ⟨rfl, y.2, by omega, x2.2⟩]
            · rw [if_neg (fun z => x2 z.2.2), if_neg (fun z => x2 ⟨by have := z.2.2.1; omega, z.2.2.2⟩)]
        · rw [q3 a b (by omega), SC_ne y, SC_ne y]
      rw [eA, eB, eon, mem] at q1
      have z0 : cN (fun k => SC τ t n c 20 k = (c : Int)) 0 = 0 := rfl
      have z1 : cN (fun k => SC τ t n c 20 k = (c : Int) ∧ SC τ t n c 1 (7 * w k + 2) = 3) 0 = 0 := rfl
      have rdv : rdF τ (c : Int) n 0 0 = 1 := act.1
      have alv : alF τ (c : Int) n 0 1 = 1 := act.2
      rw [rdv, alv] at FL
      have l2 : left - (lfC τ n c : Int) - (cN (fun k => τ 20 k = (c : Int)) n : Int) + ((0 : Nat) : Int) = left - (lfC τ n (c + 1) : Int) := by rw [lS]; omega
      have s2 : (spC τ w n c : Int) + (cN (fun k => τ 20 k = (c : Int) ∧ τ 1 (7 * w k + 2) = 3) n : Int) - ((0 : Nat) : Int) = (spC τ w n (c + 1) : Int) := by rw [sS]; omega
      have Q := fun K z NF (hNF : n < NF) => q1 NF hNF K z
      rw [z0, z1, l2, s2, cast0] at Q
      rw [cast0] at FL
      rw [← IH, mm_lk_s, fX7_goCompanies_L44]
      have o : ¬ (1 : Int) = 0 := by omega
      generalize hfu : mm_fu = NF; have hNF : 4096 ≤ NF := by rw [← hfu]; exact Nat.le_refl _
      simp (implicitDefEqProofs := false) (maxSteps := 1000000) (disch := omega) only [g29, c1, ↓mm_lt_s, ↓cl_in, ↓cl_wi, ↓cl_has, ↓cl_isP, mL_le, lit_n, litL_n, mL_mI, mL_neg, mm_cl_s, mI_lt, mI_le, mI_eq, enc_at, enc_wr, enc_cp, mI_neg, mI_add, mI_sub, mI_mul, mI_ix, mm_ck_ok, mm_nz_ok, mm_bo_c, mm_bo_m0, mm_bo_m1, b01, Int.toNat_natCast, Int.reduceToNat, Int.reduceNeg, Int.reduceSub, Int.reduceAdd, Int.reduceMul, Int.reduceLT, Int.reduceLE, Int.reduceEq, ↓reduceIte, not_true, not_false_eq_true, not_true_eq_false, and_self, true_and, and_true, false_and, and_false, Decidable.not_not, stv1, stv2, stv3, stv4]
      rw [FL _ _ NF (by omega)]
      rw [Q _ _ NF (by omega)]
      rcases on01 with a | a
      · have pe : (plC τ w n (c + 1) : Int) = (plC τ w n c : Int) + 0 := by rw [pS, if_neg (fun x => by have := x.2; omega)]; omega
        rw [a, pe]
        simp (implicitDefEqProofs := false) (maxSteps := 1000000) (disch := omega) only [cast_s, ↓mm_lt_s, ↓cl_in, ↓cl_wi, ↓cl_has, ↓cl_isP, mL_le, lit_n, litL_n, mL_mI, mL_neg, mm_cl_s, mI_lt, mI_le, mI_eq, enc_at, enc_wr, enc_cp, mI_neg, mI_add, mI_sub, mI_mul, mI_ix, mm_ck_ok, mm_nz_ok, mm_bo_c, mm_bo_m0, mm_bo_m1, b01, Int.toNat_natCast, Int.reduceToNat, Int.reduceNeg, Int.reduceSub, Int.reduceAdd, Int.reduceMul, Int.reduceLT, Int.reduceLE, Int.reduceEq, ↓reduceIte, not_true, not_false_eq_true, not_true_eq_false, and_self, true_and, and_true, false_and, and_false, Decidable.not_not, stv1, stv2, stv3, stv4]
      · have pe : (plC τ w n (c + 1) : Int) = (plC τ w n c : Int) + 1 := by rw [pS, if_pos ⟨act, a⟩]; omega
        rw [a, pe]
        simp (implicitDefEqProofs := false) (maxSteps := 1000000) (disch := omega) only [o, cast_s, ↓mm_lt_s, ↓cl_in, ↓cl_wi, ↓cl_has, ↓cl_isP, mL_le, lit_n, litL_n, mL_mI, mL_neg, mm_cl_s, mI_lt, mI_le, mI_eq, enc_at, enc_wr, enc_cp, mI_neg, mI_add, mI_sub, mI_mul, mI_ix, mm_ck_ok, mm_nz_ok, mm_bo_c, mm_bo_m0, mm_bo_m1, b01, Int.toNat_natCast, Int.reduceToNat, Int.reduceNeg, Int.reduceSub, Int.reduceAdd, Int.reduceMul, Int.reduceLT, Int.reduceLE, Int.reduceEq, ↓reduceIte, not_true, not_false_eq_true, not_true_eq_false, and_self, true_and, and_true, false_and, and_false, Decidable.not_not, stv1, stv2, stv3, stv4]
    · have lS : lfC τ n (c + 1) = lfC τ n c := cN_cong n (fun k hk => by
        unfold gonP
        constructor
        · rintro ⟨x1, x2⟩
          refine ⟨?_, x2⟩
          have : τ 20 k ≠ (c : Int) := fun e => act (by rw [e] at x2; exact x2)
          omega
        · rintro ⟨x1, x2⟩
          exact ⟨by omega, x2⟩)
      have sS : spC τ w n (c + 1) = spC τ w n c := cN_cong n (fun k hk => by
        unfold gonP
        constructor
        · rintro ⟨⟨x1, x2⟩, x3⟩
          refine ⟨⟨?_, x2⟩, x3⟩
          have : τ 20 k ≠ (c : Int) := fun e => act (by rw [e] at x2; exact x2)
          omega
        · rintro ⟨⟨x1, x2⟩, x3⟩
          exact ⟨⟨by omega, x2⟩, x3⟩)
      have mem : SC τ t n (c + 1) = SC τ t n c := by
        funext a b
        unfold SC gonP
        by_cases y : a = 22 ∧ b < n ∧ τ 20 b < (c : Int) ∧ actP τ n (τ 20 b)
        · rw [if_pos y, if_pos ⟨y.1, y.2.1, by omega, y.2.2.2⟩]
        · rw [if_neg y, if_neg (fun z => y ⟨z.1, z.2.1, by
            have z1 := z.2.2.1
            have z2 := z.2.2.2
            have : τ 20 b ≠ (c : Int) := fun e => act (by rw [e] at z2; exact z2)
            omega, z.2.2.2⟩)]
      have pe : (plC τ w n (c + 1) : Int) = (plC τ w n c : Int) + 0 := by rw [pS, if_neg (fun x => act x.1)]; omega
      rw [cast0] at FL
      have o : ¬ (1 : Int) = 0 := by omega
      have skip : ∀ (f g : Int), (f = 0 ∧ (g = 0 ∨ g = 1)) ∨ (f = 1 ∧ g = 0) → ∀ K z NF, 0 < NF → mm_lk z (fX7_goCompanies_L152 (mI c) (mI f) (mI g) (mI t) K) NF (mI (left - (lfC τ n c : Int))) (mI (spC τ w n c)) (mI 0) (mI 0) (enc (SC τ t n c)) = K (mI (left - (lfC τ n c : Int))) (mI (spC τ w n c)) (mI 0) (enc (SC τ t n c)) := fun f g hfg K z NF hNF => by
        obtain ⟨M, rfl⟩ : ∃ M, NF = M + 1 := ⟨NF - 1, by omega⟩
        have n0 : ¬ (n : Int) ≤ 0 := by omega
        rw [mm_lk_s, fX7_goCompanies_L152]
        rcases hfg with ⟨rfl, -⟩ | ⟨rfl, rfl⟩
        · simp (implicitDefEqProofs := false) (maxSteps := 1000000) (disch := omega) only [g29, n0, ↓mm_lt_s, ↓cl_in, ↓cl_wi, ↓cl_has, ↓cl_isP, mL_le, lit_n, litL_n, mL_mI, mL_neg, mm_cl_s, mI_lt, mI_le, mI_eq, enc_at, enc_wr, enc_cp, mI_neg, mI_add, mI_sub, mI_mul, mI_ix, mm_ck_ok, mm_nz_ok, mm_bo_c, mm_bo_m0, mm_bo_m1, b01, Int.toNat_natCast, Int.reduceToNat, Int.reduceNeg, Int.reduceSub, Int.reduceAdd, Int.reduceMul, Int.reduceLT, Int.reduceLE, Int.reduceEq, ↓reduceIte, not_true, not_false_eq_true, not_true_eq_false, and_self, true_and, and_true, false_and, and_false, Decidable.not_not, stv1, stv2, stv3, stv4]
        · simp (implicitDefEqProofs := false) (maxSteps := 1000000) (disch := omega) only [g29, n0, o, ↓mm_lt_s, ↓cl_in, ↓cl_wi, ↓cl_has, ↓cl_isP, mL_le, lit_n, litL_n, mL_mI, mL_neg, mm_cl_s, mI_lt, mI_le, mI_eq, enc_at, enc_wr, enc_cp, mI_neg, mI_add, mI_sub, mI_mul, mI_ix, mm_ck_ok, mm_nz_ok, mm_bo_c, mm_bo_m0, mm_bo_m1, b01, Int.toNat_natCast, Int.reduceToNat, Int.reduceNeg, Int.reduceSub, Int.reduceAdd, Int.reduceMul, Int.reduceLT, Int.reduceLE, Int.reduceEq, ↓reduceIte, not_true, not_false_eq_true, not_true_eq_false, and_self, true_and, and_true, false_and, and_false, Decidable.not_not, stv1, stv2, stv3, stv4]
      have fg : (rdF τ (c : Int) n 0 0 = 0 ∧ (alF τ (c : Int) n 0 1 = 0 ∨ alF τ (c : Int) n 0 1 = 1)) ∨ (rdF τ (c : Int) n 0 0 = 1 ∧ alF τ (c : Int) n 0 1 = 0) := by
        have r1 := rdF_01 (τ := τ) (c := (c : Int)) n 0 0 (Or.inl rfl)
        have r2 := alF_01 (τ := τ) (c := (c : Int)) n 0 1 (Or.inr rfl)
        rcases r1 with r1 | r1
        · exact Or.inl ⟨r1, r2⟩
        · rcases r2 with r2 | r2
          · exact Or.inr ⟨r1, r2⟩
          · exact absurd ⟨r1, r2⟩ act
      rw [← IH, lS, sS, mem, pe, mm_lk_s, fX7_goCompanies_L44]
      generalize hfu : mm_fu = NF; have hNF : 4096 ≤ NF := by rw [← hfu]; exact Nat.le_refl _
      simp (implicitDefEqProofs := false) (maxSteps := 1000000) (disch := omega) only [g29, c1, ↓mm_lt_s, ↓cl_in, ↓cl_wi, ↓cl_has, ↓cl_isP, mL_le, lit_n, litL_n, mL_mI, mL_neg, mm_cl_s, mI_lt, mI_le, mI_eq, enc_at, enc_wr, enc_cp, mI_neg, mI_add, mI_sub, mI_mul, mI_ix, mm_ck_ok, mm_nz_ok, mm_bo_c, mm_bo_m0, mm_bo_m1, b01, Int.toNat_natCast, Int.reduceToNat, Int.reduceNeg, Int.reduceSub, Int.reduceAdd, Int.reduceMul, Int.reduceLT, Int.reduceLE, Int.reduceEq, ↓reduceIte, not_true, not_false_eq_true, not_true_eq_false, and_self, true_and, and_true, false_and, and_false, Decidable.not_not, stv1, stv2, stv3, stv4]
      rw [FL _ _ NF (by omega)]
      rw [skip _ _ fg _ _ NF (by omega)]
      simp (implicitDefEqProofs := false) (maxSteps := 1000000) (disch := omega) only [cast_s, ↓mm_lt_s, ↓cl_in, ↓cl_wi, ↓cl_has, ↓cl_isP, mL_le, lit_n, litL_n, mL_mI, mL_neg, mm_cl_s, mI_lt, mI_le, mI_eq, enc_at, enc_wr, enc_cp, mI_neg, mI_add, mI_sub, mI_mul, mI_ix, mm_ck_ok, mm_nz_ok, mm_bo_c, mm_bo_m0, mm_bo_m1, b01, Int.toNat_natCast, Int.reduceToNat, Int.reduceNeg, Int.reduceSub, Int.reduceAdd, Int.reduceMul, Int.reduceLT, Int.reduceLE, Int.reduceEq, ↓reduceIte, not_true, not_false_eq_true, not_true_eq_false, and_self, true_and, and_true, false_and, and_false, Decidable.not_not, stv1, stv2, stv3, stv4]
