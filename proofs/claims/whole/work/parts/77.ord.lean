/-! order: the reference's minute -/
/-- one column's minute: who goes and is not over -/
abbrev actO (τ : IM) (t : Int) (g : Nat → Int) (k : Nat) : Prop := τ 22 k < 0 ∧ g k < t
def col8 (τ : IM) (w : Nat → Nat) (k : Nat) : Int := gsC (τ 0 23) (pcW τ w k) (fun a => τ a k) 8
def col7 (τ : IM) (w : Nat → Nat) (k : Nat) : Int := gsC (τ 0 23) (pcW τ w k) (fun a => τ a k) 7
abbrev stO (τ : IM) (w : Nat → Nat) (t : Int) (g : Nat → Int) (k : Nat) : Prop := actO τ t g k ∧ col8 τ w k = 1
/-- the columns of those whose place in the row lies ahead of j are through -/
def SO (τ : IM) (w : Nat → Nat) (t : Int) (g : Nat → Int) (v : Nat → Nat) (n j : Nat) : IM := fun a b => if (b < n ∧ v b < j) ∧ actO τ t g b then (if a = 7 then col7 τ w b else if a = 8 then col8 τ w b else if a = 22 then (if col8 τ w b = 1 then t else τ 22 b) else τ a b) else τ a b
theorem SO_ne {τ : IM} {w : Nat → Nat} {t : Int} {g : Nat → Int} {v : Nat → Nat} {n j a b : Nat} (h : ¬ ((a = 7 ∨ a = 8 ∨ a = 22) ∧ b < n)) : SO τ w t g v n j a b = τ a b := by
  unfold SO
  split
  · rw [if_neg (by omega), if_neg (by omega), if_neg (by omega)]
  · rfl
theorem col8_01 {τ : IM} {w : Nat → Nat} {k : Nat} (h : 0 ≤ τ 8 k ∧ τ 8 k ≤ 1) : 0 ≤ col8 τ w k ∧ col8 τ w k ≤ 1 := by
  unfold col8 gsC
  dsimp only
  split
  · rw [if_neg (by omega), if_pos rfl]
    split <;> omega
  · exact h
theorem ordL {n : Nat} {w r v : Nat → Nat} {t gap left : Int} {τ : IM} (ht : 0 ≤ t ∧ t ≤ 1000) (hg : 0 ≤ gap ∧ gap ≤ 60) (hW : WK τ n w) (hl : 0 ≤ left ∧ left ≤ 6) (h23 : 1 ≤ τ 0 23 ∧ τ 0 23 ≤ 400) (hB : ∀ k, k < n → (-1 ≤ τ 22 k ∧ τ 22 k ≤ 1000) ∧ (0 ≤ τ 8 k ∧ τ 8 k ≤ 1) ∧ (0 ≤ τ 7 k ∧ τ 7 k ≤ 1000)) (hr : ∀ j, j < n → τ 20 j = (r j : Int) ∧ r j < n ∧ v (r j) = j) (hv : ∀ k, k < n → v k < n ∧ r (v k) = k) : ∀ (d j : Nat), j + d = n → ∀ (N : Nat), d < N → ∀ (K : Int32 → Int32 → Int32 → Mm → Aa) (z : Int32 → Int32 → Int32 → Int32 → Mm → Aa), mm_lk z (fX7_goOrder_L24 (mI gap) (mI t) K) N (mI (left - (cN (fun q => stO τ w t (fun k => (v k : Int) * gap) (r q)) j : Int))) (mI (cN (fun q => stO τ w t (fun k => (v k : Int) * gap) (r q) ∧ ¬ τ 1 (7 * w (r q) + 2) = 3) j)) (mI (cN (fun q => stO τ w t (fun k => (v k : Int) * gap) (r q) ∧ τ 1 (7 * w (r q) + 2) = 3) j)) (mI j) (enc (SO τ w t (fun k => (v k : Int) * gap) v n j)) = K (mI (left - (cN (fun q => stO τ w t (fun k => (v k : Int) * gap) (r q)) n : Int))) (mI (cN (fun q => stO τ w t (fun k => (v k : Int) * gap) (r q) ∧ ¬ τ 1 (7 * w (r q) + 2) = 3) n)) (mI (cN (fun q => stO τ w t (fun k => (v k : Int) * gap) (r q) ∧ τ 1 (7 * w (r q) + 2) = 3) n)) (enc (SO τ w t (fun k => (v k : Int) * gap) v n n)) := by
  have h29 := hW.1.1
  have h6 := hW.1.2
  intro d
  induction d with
  | zero =>
    intro j h N hN K z
    have e : j = n := by omega
    subst e
    obtain ⟨N, rfl⟩ : ∃ M, N = M + 1 := ⟨N - 1, by omega⟩
    have g29 : SO τ w t (fun k => (v k : Int) * gap) v j j 0 29 = (j : Int) := by rw [SO_ne (by omega)]; exact h29
    rw [mm_lk_s, fX7_goOrder_L24]
    simp (implicitDefEqProofs := false) (maxSteps := 1000000) (disch := omega) only [g29, ↓mm_lt_s, ↓cl_in, ↓cl_wi, ↓cl_has, ↓cl_isP, mL_le, lit_n, litL_n, mL_mI, mL_neg, mm_cl_s, mI_lt, mI_le, mI_eq, enc_at, enc_wr, enc_cp, mI_neg, mI_add, mI_sub, mI_mul, mI_ix, mm_ck_ok, mm_nz_ok, mm_bo_c, mm_bo_m0, mm_bo_m1, b01, Int.toNat_natCast, Int.reduceToNat, Int.reduceNeg, Int.reduceSub, Int.reduceAdd, Int.reduceMul, Int.reduceLT, Int.reduceLE, Int.reduceEq, ↓reduceIte, not_true, not_false_eq_true, not_true_eq_false, and_self, true_and, and_true, false_and, and_false, Decidable.not_not, stv1, stv2, stv3, stv4]
    repeat (first | rw [if_pos (by omega)] | rw [if_neg (by omega)])
  | succ d ih =>
    intro j h N hN K z
    obtain ⟨N, rfl⟩ : ∃ M, N = M + 1 := ⟨N - 1, by omega⟩
    have hj : j < n := by omega
    obtain ⟨r1, r2, r3⟩ := hr j hj
    have bl := cN_le (p := fun q => stO τ w t (fun k => (v k : Int) * gap) (r q)) j
    have bp := cN_le (p := fun q => stO τ w t (fun k => (v k : Int) * gap) (r q) ∧ ¬ τ 1 (7 * w (r q) + 2) = 3) j
    have bs := cN_le (p := fun q => stO τ w t (fun k => (v k : Int) * gap) (r q) ∧ τ 1 (7 * w (r q) + 2) = 3) j
    have sl := cN_s (p := fun q => stO τ w t (fun k => (v k : Int) * gap) (r q)) j
    have sp := cN_s (p := fun q => stO τ w t (fun k => (v k : Int) * gap) (r q) ∧ ¬ τ 1 (7 * w (r q) + 2) = 3) j
    have ss := cN_s (p := fun q => stO τ w t (fun k => (v k : Int) * gap) (r q) ∧ τ 1 (7 * w (r q) + 2) = 3) j
    have IH := ih (j + 1) (by omega) N (by omega) K z
    rw [sl, sp, ss] at IH
    have gb : 0 ≤ (j : Int) * gap := Int.mul_nonneg (by omega) hg.1
    have gb2 : (j : Int) * gap ≤ 6 * 60 := Int.mul_le_mul (by omega) hg.2 hg.1 (by omega)
    have vk : ((v (r j) : Nat) : Int) * gap = (j : Int) * gap := by rw [r3]
    generalize hS : SO τ w t (fun k => (v k : Int) * gap) v n j = S at *
    have g : ∀ a b, ¬ ((a = 7 ∨ a = 8 ∨ a = 22) ∧ b < n) → S a b = τ a b := fun a b hab => by rw [← hS, SO_ne hab]
    have gk : ∀ a, S a (r j) = τ a (r j) := fun a => by
      rw [← hS]
      unfold SO
      rw [if_neg (fun x => by have := x.1.2; omega)]
    have g29 : S 0 29 = (n : Int) := by rw [g _ _ (by omega)]; exact h29
    have g20 : S 20 j = (r j : Int) := by rw [g _ _ (by omega)]; exact r1
    have WS : WK S n w := hW.cong (g _ _ (by omega)) (fun b => g _ _ (by omega)) (fun b => g _ _ (by omega))
    have pw : pcW S w (r j) = pcW τ w (r j) := by
      unfold pcW
      rw [g _ _ (by omega), g _ _ (by omega)]
    obtain ⟨b22, b8, b7⟩ := hB (r j) r2
    have GS := gsM (τ := S) (k := r j) WS r2 (by rw [gk]; exact b7) (by rw [gk]; exact b8) (by rw [g _ _ (by omega)]; exact h23)
    rw [pw, g 0 23 (by omega), show (fun a => S a (r j)) = (fun a => τ a (r j)) from funext gk] at GS
    have c1 : ¬ (n : Int) ≤ (j : Int) := by omega
    have o : ¬ (1 : Int) = 0 := by omega
    have c8 := col8_01 (w := w) b8
    -- the next stage
    have other : ∀ a b, b ≠ r j → SO τ w t (fun k => (v k : Int) * gap) v n (j + 1) a b = S a b := fun a b hb => by
      rw [← hS]
      unfold SO
      by_cases x : (b < n ∧ v b < j) ∧ actO τ t (fun k => (v k : Int) * gap) b
      · rw [if_pos x, if_pos ⟨⟨x.1.1, by omega⟩, x.2⟩]
      · rw [if_neg x, if_neg (fun y => x ⟨⟨y.1.1, by
          have y1 := y.1.2
          have : v b ≠ j := fun e => hb (by rw [← e]; exact ((hv b y.1.1).2).symm)
          omega⟩, y.2⟩)]
    by_cases act : actO τ t (fun k => (v k : Int) * gap) (r j)
    · obtain ⟨ac1, ac2⟩ := id act
      dsimp only at ac2
      rw [vk] at ac2
      have x1 : ¬ 0 ≤ τ 22 (r j) := by omega
      have x2 : ¬ t ≤ (j : Int) * gap := by omega
      have own : ∀ a, SO τ w t (fun k => (v k : Int) * gap) v n (j + 1) a (r j) = (if a = 7 then col7 τ w (r j) else if a = 8 then col8 τ w (r j) else if a = 22 then (if col8 τ w (r j) = 1 then t else τ 22 (r j)) else τ a (r j)) := fun a => by
        unfold SO
        rw [if_pos ⟨⟨r2, by omega⟩, act⟩]
      generalize hM : setC S (r j) (gsC (τ 0 23) (pcW τ w (r j)) (fun a => τ a (r j))) = M1 at *
      have m8 : M1 8 (r j) = col8 τ w (r j) := by rw [← hM, setC_i (by omega) (by omega)]; rfl
      have mo : ∀ a b, b ≠ r j → M1 a b = S a b := fun a b hb => by rw [← hM, setC_ne (by omega)]
      have mk : ∀ a, M1 a (r j) = (if a = 7 then col7 τ w (r j) else if a = 8 then col8 τ w (r j) else τ a (r j)) := fun a => by
        rw [← hM]
        by_cases y : 5 ≤ a ∧ a ≤ 17
        · rw [setC_i y.1 y.2]
          by_cases a7 : a = 7
          · rw [if_pos a7, a7]; rfl
          · by_cases a8 : a = 8
            · rw [if_neg a7, if_pos a8, a8]; rfl
            · rw [if_neg a7, if_neg a8]
              unfold gsC
              dsimp only
              split
              · first
                | rfl
                | rw [if_neg a7, if_neg a8]
              · rfl
        · rw [setC_ne (by omega), gk, if_neg (by omega), if_neg (by omega)]
      by_cases f : col8 τ w (r j) = 1
      · have st : stO τ w t (fun k => (v k : Int) * gap) (r j) := ⟨act, f⟩
        have mem : iw M1 22 (r j) t = SO τ w t (fun k => (v k : Int) * gap) v n (j + 1) := by
          funext a b
          by_cases y : b = r j
          · subst y
            rw [own a]
            by_cases a22 : a = 22
            · rw [iw_eq a22 rfl, if_neg (by omega), if_neg (by omega), if_pos a22, if_pos f]
            · rw [iw_ne (by omega), mk a]
              by_cases a7 : a = 7
              · rw [if_pos a7, if_pos a7]
              · by_cases a8 : a = 8
                · rw [if_neg a7, if_pos a8, if_neg a7, if_pos a8]
                · rw [if_neg a7, if_neg a8, if_neg a7, if_neg a8, if_neg a22]
          · rw [iw_ne (by omega), mo a b y, other a b y]
        have W2 : WK (iw M1 22 (r j) t) n w := by
          refine WS.cong ?_ (fun b => ?_) (fun b => ?_)
          · rw [iw_ne (by omega), ← hM, setC_ne (by omega)]
          · rw [iw_ne (by omega), ← hM, setC_ne (by omega)]
          · rw [iw_ne (by omega), ← hM, setC_ne (by omega)]
        have SPM := spitM (k := r j) W2 r2
        have t1 : iw M1 22 (r j) t 1 (7 * w (r j) + 2) = τ 1 (7 * w (r j) + 2) := by rw [iw_ne (by omega), ← hM, setC_ne (by omega), g _ _ (by omega)]
        rw [t1, mem] at SPM
        rw [if_pos st] at IH
        by_cases s3 : τ 1 (7 * w (r j) + 2) = 3
        · rw [if_neg (fun x => x.2 s3), if_pos ⟨st, s3⟩] at IH
          rw [if_pos s3] at SPM
          rw [← IH, mm_lk_s, fX7_goOrder_L24]
          have e1 : left - (cN (fun q => stO τ w t (fun k => (v k : Int) * gap) (r q)) j : Int) + -1 = left - ((cN (fun q => stO τ w t (fun k => (v k : Int) * gap) (r q)) j + 1 : Nat) : Int) := by omega
          have e2 : (cN (fun q => stO τ w t (fun k => (v k : Int) * gap) (r q) ∧ ¬ τ 1 (7 * w (r q) + 2) = 3) j : Int) + 0 = ((cN (fun q => stO τ w t (fun k => (v k : Int) * gap) (r q) ∧ ¬ τ 1 (7 * w (r q) + 2) = 3) j + 0 : Nat) : Int) := by omega
          have e3 : (cN (fun q => stO τ w t (fun k => (v k : Int) * gap) (r q) ∧ τ 1 (7 * w (r q) + 2) = 3) j : Int) + 1 = ((cN (fun q => stO τ w t (fun k => (v k : Int) * gap) (r q) ∧ τ 1 (7 * w (r q) + 2) = 3) j + 1 : Nat) : Int) := by omega
          rw [← e1, ← e2, ← e3]
          generalize left - (cN (fun q => stO τ w t (fun k => (v k : Int) * gap) (r q)) j : Int) = L0 at *
          generalize (cN (fun q => stO τ w t (fun k => (v k : Int) * gap) (r q) ∧ ¬ τ 1 (7 * w (r q) + 2) = 3) j : Int) = P0 at *
          generalize (cN (fun q => stO τ w t (fun k => (v k : Int) * gap) (r q) ∧ τ 1 (7 * w (r q) + 2) = 3) j : Int) = S0 at *
          simp (implicitDefEqProofs := false) (maxSteps := 1000000) (disch := omega) only [g29, c1, g20, gk, x1, x2, ↓mm_lt_s, ↓cl_in, ↓cl_wi, ↓cl_has, ↓cl_isP, mL_le, lit_n, litL_n, mL_mI, mL_neg, mm_cl_s, mI_lt, mI_le, mI_eq, enc_at, enc_wr, enc_cp, mI_neg, mI_add, mI_sub, mI_mul, mI_ix, mm_ck_ok, mm_nz_ok, mm_bo_c, mm_bo_m0, mm_bo_m1, b01, Int.toNat_natCast, Int.reduceToNat, Int.reduceNeg, Int.reduceSub, Int.reduceAdd, Int.reduceMul, Int.reduceLT, Int.reduceLE, Int.reduceEq, ↓reduceIte, not_true, not_false_eq_true, not_true_eq_false, and_self, true_and, and_true, false_and, and_false, Decidable.not_not, stv1, stv2, stv3, stv4]
          rw [GS]
          simp (implicitDefEqProofs := false) (maxSteps := 1000000) (disch := omega) only [g20, m8, eq_true f, mem, ↓mm_lt_s, ↓cl_in, ↓cl_wi, ↓cl_has, ↓cl_isP, mL_le, lit_n, litL_n, mL_mI, mL_neg, mm_cl_s, mI_lt, mI_le, mI_eq, enc_at, enc_wr, enc_cp, mI_neg, mI_add, mI_sub, mI_mul, mI_ix, mm_ck_ok, mm_nz_ok, mm_bo_c, mm_bo_m0, mm_bo_m1, b01, Int.toNat_natCast, Int.reduceToNat, Int.reduceNeg, Int.reduceSub, Int.reduceAdd, Int.reduceMul, Int.reduceLT, Int.reduceLE, Int.reduceEq, ↓reduceIte, not_true, not_false_eq_true, not_true_eq_false, and_self, true_and, and_true, false_and, and_false, Decidable.not_not, stv1, stv2, stv3, stv4]
          rw [SPM]
          simp (implicitDefEqProofs := false) (maxSteps := 1000000) (disch := omega) only [g20, o, ↓mm_lt_s, ↓cl_in, ↓cl_wi, ↓cl_has, ↓cl_isP, mL_le, lit_n, litL_n, mL_mI, mL_neg, mm_cl_s, mI_lt, mI_le, mI_eq, enc_at, enc_wr, enc_cp, mI_neg, mI_add, mI_sub, mI_mul, mI_ix, mm_ck_ok, mm_nz_ok, mm_bo_c, mm_bo_m0, mm_bo_m1, b01, Int.toNat_natCast, Int.reduceToNat, Int.reduceNeg, Int.reduceSub, Int.reduceAdd, Int.reduceMul, Int.reduceLT, Int.reduceLE, Int.reduceEq, ↓reduceIte, not_true, not_false_eq_true, not_true_eq_false, and_self, true_and, and_true, false_and, and_false, Decidable.not_not, stv1, stv2, stv3, stv4]
          rw [SPM]
          simp (implicitDefEqProofs := false) (maxSteps := 1000000) (disch := omega) only [g20, o, cast_s, ↓mm_lt_s, ↓cl_in, ↓cl_wi, ↓cl_has, ↓cl_isP, mL_le, lit_n, litL_n, mL_mI, mL_neg, mm_cl_s, mI_lt, mI_le, mI_eq, enc_at, enc_wr, enc_cp, mI_neg, mI_add, mI_sub, mI_mul, mI_ix, mm_ck_ok, mm_nz_ok, mm_bo_c, mm_bo_m0, mm_bo_m1, b01, Int.toNat_natCast, Int.reduceToNat, Int.reduceNeg, Int.reduceSub, Int.reduceAdd, Int.reduceMul, Int.reduceLT, Int.reduceLE, Int.reduceEq, ↓reduceIte, not_true, not_false_eq_true, not_true_eq_false, and_self, true_and, and_true, false_and, and_false, Decidable.not_not, stv1, stv2, stv3, stv4]
        · rw [if_pos ⟨st, s3⟩, if_neg (fun x => s3 x.2)] at IH
          rw [if_neg s3] at SPM
          rw [← IH, mm_lk_s, fX7_goOrder_L24]
          have e1 : left - (cN (fun q => stO τ w t (fun k => (v k : Int) * gap) (r q)) j : Int) + -1 = left - ((cN (fun q => stO τ w t (fun k => (v k : Int) * gap) (r q)) j + 1 : Nat) : Int) := by omega
          have e2 : (cN (fun q => stO τ w t (fun k => (v k : Int) * gap) (r q) ∧ ¬ τ 1 (7 * w (r q) + 2) = 3) j : Int) + 1 = ((cN (fun q => stO τ w t (fun k => (v k : Int) * gap) (r q) ∧ ¬ τ 1 (7 * w (r q) + 2) = 3) j + 1 : Nat) : Int) := by omega
          have e3 : (cN (fun q => stO τ w t (fun k => (v k : Int) * gap) (r q) ∧ τ 1 (7 * w (r q) + 2) = 3) j : Int) + 0 = ((cN (fun q => stO τ w t (fun k => (v k : Int) * gap) (r q) ∧ τ 1 (7 * w (r q) + 2) = 3) j + 0 : Nat) : Int) := by omega
          rw [← e1, ← e2, ← e3]
          generalize left - (cN (fun q => stO τ w t (fun k => (v k : Int) * gap) (r q)) j : Int) = L0 at *
          generalize (cN (fun q => stO τ w t (fun k => (v k : Int) * gap) (r q) ∧ ¬ τ 1 (7 * w (r q) + 2) = 3) j : Int) = P0 at *
          generalize (cN (fun q => stO τ w t (fun k => (v k : Int) * gap) (r q) ∧ τ 1 (7 * w (r q) + 2) = 3) j : Int) = S0 at *
          simp (implicitDefEqProofs := false) (maxSteps := 1000000) (disch := omega) only [g29, c1, g20, gk, x1, x2, ↓mm_lt_s, ↓cl_in, ↓cl_wi, ↓cl_has, ↓cl_isP, mL_le, lit_n, litL_n, mL_mI, mL_neg, mm_cl_s, mI_lt, mI_le, mI_eq, enc_at, enc_wr, enc_cp, mI_neg, mI_add, mI_sub, mI_mul, mI_ix, mm_ck_ok, mm_nz_ok, mm_bo_c, mm_bo_m0, mm_bo_m1, b01, Int.toNat_natCast, Int.reduceToNat, Int.reduceNeg, Int.reduceSub, Int.reduceAdd, Int.reduceMul, Int.reduceLT, Int.reduceLE, Int.reduceEq, ↓reduceIte, not_true, not_false_eq_true, not_true_eq_false, and_self, true_and, and_true, false_and, and_false, Decidable.not_not, stv1, stv2, stv3, stv4]
          rw [GS]
          simp (implicitDefEqProofs := false) (maxSteps := 1000000) (disch := omega) only [g20, m8, eq_true f, mem, ↓mm_lt_s, ↓cl_in, ↓cl_wi, ↓cl_has, ↓cl_isP, mL_le, lit_n, litL_n, mL_mI, mL_neg, mm_cl_s, mI_lt, mI_le, mI_eq, enc_at, enc_wr, enc_cp, mI_neg, mI_add, mI_sub, mI_mul, mI_ix, mm_ck_ok, mm_nz_ok, mm_bo_c, mm_bo_m0, mm_bo_m1, b01, Int.toNat_natCast, Int.reduceToNat, Int.reduceNeg, Int.reduceSub, Int.reduceAdd, Int.reduceMul, Int.reduceLT, Int.reduceLE, Int.reduceEq, ↓reduceIte, not_true, not_false_eq_true, not_true_eq_false, and_self, true_and, and_true, false_and, and_false, Decidable.not_not, stv1, stv2, stv3, stv4]
          rw [SPM]
          simp (implicitDefEqProofs := false) (maxSteps := 1000000) (disch := omega) only [g20, ↓mm_lt_s, ↓cl_in, ↓cl_wi, ↓cl_has, ↓cl_isP, mL_le, lit_n, litL_n, mL_mI, mL_neg, mm_cl_s, mI_lt, mI_le, mI_eq, enc_at, enc_wr, enc_cp, mI_neg, mI_add, mI_sub, mI_mul, mI_ix, mm_ck_ok, mm_nz_ok, mm_bo_c, mm_bo_m0, mm_bo_m1, b01, Int.toNat_natCast, Int.reduceToNat, Int.reduceNeg, Int.reduceSub, Int.reduceAdd, Int.reduceMul, Int.reduceLT, Int.reduceLE, Int.reduceEq, ↓reduceIte, not_true, not_false_eq_true, not_true_eq_false, and_self, true_and, and_true, false_and, and_false, Decidable.not_not, stv1, stv2, stv3, stv4]
          rw [SPM]
          simp (implicitDefEqProofs := false) (maxSteps := 1000000) (disch := omega) only [g20, cast_s, ↓mm_lt_s, ↓cl_in, ↓cl_wi, ↓cl_has, ↓cl_isP, mL_le, lit_n, litL_n, mL_mI, mL_neg, mm_cl_s, mI_lt, mI_le, mI_eq, enc_at, enc_wr, enc_cp, mI_neg, mI_add, mI_sub, mI_mul, mI_ix, mm_ck_ok, mm_nz_ok, mm_bo_c, mm_bo_m0, mm_bo_m1, b01, Int.toNat_natCast, Int.reduceToNat, Int.reduceNeg, Int.reduceSub, Int.reduceAdd, Int.reduceMul, Int.reduceLT, Int.reduceLE, Int.reduceEq, ↓reduceIte, not_true, not_false_eq_true, not_true_eq_false, and_self, true_and, and_true, false_and, and_false, Decidable.not_not, stv1, stv2, stv3, stv4]
      · have nst : ¬ stO τ w t (fun k => (v k : Int) * gap) (r j) := fun x => f x.2
        have mem : M1 = SO τ w t (fun k => (v k : Int) * gap) v n (j + 1) := by
          funext a b
          by_cases y : b = r j
          · subst y
            rw [own a, mk a, if_neg f]
            by_cases a7 : a = 7
            · rw [if_pos a7, if_pos a7]
            · by_cases a8 : a = 8
              · rw [if_neg a7, if_pos a8, if_neg a7, if_pos a8]
              · rw [if_neg a7, if_neg a8, if_neg a7, if_neg a8]
                by_cases a22 : a = 22
                · rw [if_pos a22, a22]
                · rw [if_neg a22]
          · rw [mo a b y, other a b y]
        rw [if_neg nst, if_neg (fun x => nst x.1), if_neg (fun x => nst x.1), ← mem] at IH
        rw [← IH, mm_lk_s, fX7_goOrder_L24]
        simp (implicitDefEqProofs := false) (maxSteps := 1000000) (disch := omega) only [g29, c1, g20, gk, x1, x2, ↓mm_lt_s, ↓cl_in, ↓cl_wi, ↓cl_has, ↓cl_isP, mL_le, lit_n, litL_n, mL_mI, mL_neg, mm_cl_s, mI_lt, mI_le, mI_eq, enc_at, enc_wr, enc_cp, mI_neg, mI_add, mI_sub, mI_mul, mI_ix, mm_ck_ok, mm_nz_ok, mm_bo_c, mm_bo_m0, mm_bo_m1, b01, Int.toNat_natCast, Int.reduceToNat, Int.reduceNeg, Int.reduceSub, Int.reduceAdd, Int.reduceMul, Int.reduceLT, Int.reduceLE, Int.reduceEq, ↓reduceIte, not_true, not_false_eq_true, not_true_eq_false, and_self, true_and, and_true, false_and, and_false, Decidable.not_not, stv1, stv2, stv3, stv4]
        rw [GS]
        simp (implicitDefEqProofs := false) (maxSteps := 1000000) (disch := omega) only [g20, m8, f, cast_s, ↓mm_lt_s, ↓cl_in, ↓cl_wi, ↓cl_has, ↓cl_isP, mL_le, lit_n, litL_n, mL_mI, mL_neg, mm_cl_s, mI_lt, mI_le, mI_eq, enc_at, enc_wr, enc_cp, mI_neg, mI_add, mI_sub, mI_mul, mI_ix, mm_ck_ok, mm_nz_ok, mm_bo_c, mm_bo_m0, mm_bo_m1, b01, Int.toNat_natCast, Int.reduceToNat, Int.reduceNeg, Int.reduceSub, Int.reduceAdd, Int.reduceMul, Int.reduceLT, Int.reduceLE, Int.reduceEq, ↓reduceIte, not_true, not_false_eq_true, not_true_eq_false, and_self, true_and, and_true, false_and, and_false, Decidable.not_not, stv1, stv2, stv3, stv4]
        rfl
    · have nst : ¬ stO τ w t (fun k => (v k : Int) * gap) (r j) := fun x => act x.1
      have mem : S = SO τ w t (fun k => (v k : Int) * gap) v n (j + 1) := by
        funext a b
        by_cases y : b = r j
        · subst y
          rw [gk a]
          unfold SO
          rw [if_neg (fun x => act x.2)]
        · rw [other a b y]
      rw [if_neg nst, if_neg (fun x => nst x.1), if_neg (fun x => nst x.1), ← mem] at IH
      rw [← IH, mm_lk_s, fX7_goOrder_L24]
      by_cases x1 : 0 ≤ τ 22 (r j)
      · simp (implicitDefEqProofs := false) (maxSteps := 1000000) (disch := omega) only [g29, c1, g20, gk, x1, cast_s, ↓mm_lt_s, ↓cl_in, ↓cl_wi, ↓cl_has, ↓cl_isP, mL_le, lit_n, litL_n, mL_mI, mL_neg, mm_cl_s, mI_lt, mI_le, mI_eq, enc_at, enc_wr, enc_cp, mI_neg, mI_add, mI_sub, mI_mul, mI_ix, mm_ck_ok, mm_nz_ok, mm_bo_c, mm_bo_m0, mm_bo_m1, b01, Int.toNat_natCast, Int.reduceToNat, Int.reduceNeg, Int.reduceSub, Int.reduceAdd, Int.reduceMul, Int.reduceLT, Int.reduceLE, Int.reduceEq, ↓reduceIte, not_true, not_false_eq_true, not_true_eq_false, and_self, true_and, and_true, false_and, and_false, Decidable.not_not, stv1, stv2, stv3, stv4]
        rfl
      · have x2 : t ≤ (j : Int) * gap := by
          by_cases y : t ≤ (j : Int) * gap
          · exact y
          · exact absurd (⟨by omega, by show (v (r j) : Int) * gap < t; rw [vk]; omega⟩ : actO τ t (fun k => (v k : Int) * gap) (r j)) act
        simp (implicitDefEqProofs := false) (maxSteps := 1000000) (disch := omega) only [g29, c1, g20, gk, x1, x2, cast_s, ↓mm_lt_s, ↓cl_in, ↓cl_wi, ↓cl_has, ↓cl_isP, mL_le, lit_n, litL_n, mL_mI, mL_neg, mm_cl_s, mI_lt, mI_le, mI_eq, enc_at, enc_wr, enc_cp, mI_neg, mI_add, mI_sub, mI_mul, mI_ix, mm_ck_ok, mm_nz_ok, mm_bo_c, mm_bo_m0, mm_bo_m1, b01, Int.toNat_natCast, Int.reduceToNat, Int.reduceNeg, Int.reduceSub, Int.reduceAdd, Int.reduceMul, Int.reduceLT, Int.reduceLE, Int.reduceEq, ↓reduceIte, not_true, not_false_eq_true, not_true_eq_false, and_self, true_and, and_true, false_and, and_false, Decidable.not_not, stv1, stv2, stv3, stv4]
        rfl
