/-! days: a whole day, in both -/
/-- cells that the class's run leaves -/
def frX (m a b : Nat) : Prop := ¬ (34 ≤ a ∧ a < 34 + m ∧ 8 ≤ b) ∧ ¬ (a = 33 ∧ b < 2) ∧ ¬ (a = 30 ∧ (b = 3 ∨ b = 4 ∨ b = 5))
theorem minF_fr {t : Int} {m a b : Nat} {σ : IM} (h : frX m a b) : minF t m σ a b = σ a b := by
  obtain ⟨h1, h2, h3⟩ := h
  by_cases c : 34 ≤ a ∧ a < 34 + m
  · obtain ⟨p, rfl⟩ : ∃ p, a = 34 + p := ⟨a - 34, by omega⟩
    exact minF_lo (by omega) (by omega)
  · exact minF_ne c h2 h3
theorem beginF_fr {m a b : Nat} {σ : IM} (h : frX m a b) : beginF m σ a b = σ a b := by
  obtain ⟨h1, h2, h3⟩ := h
  by_cases c : 34 ≤ a ∧ a < 34 + m
  · obtain ⟨p, rfl⟩ : ∃ p, a = 34 + p := ⟨a - 34, by omega⟩
    rw [beginF_row (by omega)]
    exact begR_lo (by omega)
  · exact beginF_ne c h2 h3
theorem dayR {σ τ : IM} {m : Nat} {last : Int} (h0 : 0 ≤ last) (hl : last ≤ 999) (hLD : LD σ m) (hG : DG (beginF m σ) τ m) (hW : DW (beginF m σ) τ m (fun _ => 0) 0) : ∃ σ' τ' : IM, fX0_run (mI last) (enc σ) = some (mI 0, enc σ') ∧ fX7_goTo (mI last) (enc τ) = some (mI 0, enc τ') ∧ XI σ' m (last + 1) ∧ DG σ' τ' m ∧ DW σ' τ' m (fun _ => last + 1) (last + 1) ∧ (∀ a b, frX m a b → σ' a b = σ a b) ∧ (∀ a b, frM a b → τ' a b = τ a b) := by
  have R := runX (P := fun t σ1 => ∃ τ1 : IM, (∀ (N : Nat) (K : Mm → Aa) (z : Int32 → Mm → Aa), mm_lk z (fX7_goTo_L2 (mI last) K) (N + t.toNat) (mI 0) (enc τ) = mm_lk z (fX7_goTo_L2 (mI last) K) N (mI t) (enc τ1)) ∧ DG σ1 τ1 m ∧ DW σ1 τ1 m (fun _ => t) t ∧ (∀ a b, frX m a b → σ1 a b = σ a b) ∧ (∀ a b, frM a b → τ1 a b = τ a b)) h0 hl hLD (fun t σ1 ht1 ht2 hX ⟨τ1, a1, a2, a3, a4, a5⟩ => by
      obtain ⟨τ', b1, b2, b3, b4⟩ := sim (by omega) hX a2 a3
      refine ⟨τ', fun N K z => ?_, b2, b3, fun a b h => by rw [minF_fr h, a4 a b h], fun a b h => by rw [b1 a b h, a5 a b h]⟩
      rw [show N + (t + 1).toNat = (N + 1) + t.toNat by omega, a1, b4 last ht2 hl]) ⟨τ, fun N K z => rfl, hG, hW, fun a b h => beginF_fr h, fun _ _ _ => rfl⟩
  obtain ⟨σ', c1, c2, τ', c3, c4, c5, c6, c7⟩ := R
  refine ⟨σ', τ', c1, ?_, c2, c4, c5, c6, c7⟩
  unfold fX7_goTo
  generalize hfu : mm_fu = NF; have hNF : 4096 ≤ NF := by rw [← hfu]; exact Nat.le_refl _
  simp (implicitDefEqProofs := false) (maxSteps := 1000000) (disch := omega) only [↓mm_lt_s, ↓cl_in, ↓cl_wi, ↓cl_has, ↓cl_isP, mL_le, lit_n, litL_n, mL_mI, mL_neg, mm_cl_s, mI_lt, mI_le, mI_eq, enc_at, enc_wr, enc_cp, mI_neg, mI_add, mI_sub, mI_mul, mI_ix, mm_ck_ok, mm_nz_ok, mm_bo_c, mm_bo_m0, mm_bo_m1, b01, Int.toNat_natCast, Int.reduceToNat, Int.reduceNeg, Int.reduceSub, Int.reduceAdd, Int.reduceMul, Int.reduceLT, Int.reduceLE, Int.reduceEq, ↓reduceIte, not_true, not_false_eq_true, not_true_eq_false, and_self, true_and, and_true, false_and, and_false, Decidable.not_not, stv1, stv2, stv3, stv4]
  obtain ⟨N, hN⟩ : ∃ N, NF = (N + 1) + (last + 1).toNat := ⟨NF - 1 - (last + 1).toNat, by omega⟩
  have c : last < last + 1 := by omega
  rw [hN, c3, mm_lk_s, fX7_goTo_L2]
  simp (implicitDefEqProofs := false) (maxSteps := 1000000) (disch := omega) only [c, ↓mm_lt_s, ↓cl_in, ↓cl_wi, ↓cl_has, ↓cl_isP, mL_le, lit_n, litL_n, mL_mI, mL_neg, mm_cl_s, mI_lt, mI_le, mI_eq, enc_at, enc_wr, enc_cp, mI_neg, mI_add, mI_sub, mI_mul, mI_ix, mm_ck_ok, mm_nz_ok, mm_bo_c, mm_bo_m0, mm_bo_m1, b01, Int.toNat_natCast, Int.reduceToNat, Int.reduceNeg, Int.reduceSub, Int.reduceAdd, Int.reduceMul, Int.reduceLT, Int.reduceLE, Int.reduceEq, ↓reduceIte, not_true, not_false_eq_true, not_true_eq_false, and_self, true_and, and_true, false_and, and_false, Decidable.not_not, stv1, stv2, stv3, stv4]
/-- the reference begins -/
def begC (pe y : Nat → Int) (a : Nat) : Int := if a = 5 then 0 else if a = 6 then pe 1 else if a = 7 then 0 else if a = 8 then 0 else if a = 9 then 0 else if a = 12 then 0 else if a = 13 then 0 else if a = 14 then 0 else if a = 15 then -4 else if a = 16 then pe 6 else y a
theorem begM_L {K : Mm → Aa} {z : Int32 → Mm → Aa} {m : Nat} (hm : m ≤ 10) : ∀ (d i N : Nat) (τ : IM), i + d = m → d < N → τ 0 1 = (m : Int) → mm_lk z (fX7_begin_L58 K) N (mI i) (enc τ) = K (enc (eachM τ i m (fun p => begC (fun j => τ 1 (7 * p + j)) (fun a => τ a p))))
  | d, i, 0, τ, _, h, _ => absurd h (Nat.not_lt_zero d)
  | 0, i, N + 1, τ, h, _, hs => by
    have e : i = m := by omega
    subst e
    rw [mm_lk_s, fX7_begin_L58, eachM_nil]
    simp (implicitDefEqProofs := false) (maxSteps := 1000000) (disch := omega) only [hs, ↓mm_lt_s, ↓cl_in, ↓cl_wi, ↓cl_has, ↓cl_isP, mL_le, lit_n, litL_n, mL_mI, mL_neg, mm_cl_s, mI_lt, mI_le, mI_eq, enc_at, enc_wr, enc_cp, mI_neg, mI_add, mI_sub, mI_mul, mI_ix, mm_ck_ok, mm_nz_ok, mm_bo_c, mm_bo_m0, mm_bo_m1, b01, Int.toNat_natCast, Int.reduceToNat, Int.reduceNeg, Int.reduceSub, Int.reduceAdd, Int.reduceMul, Int.reduceLT, Int.reduceLE, Int.reduceEq, ↓reduceIte, not_true, not_false_eq_true, not_true_eq_false, and_self, true_and, and_true, false_and, and_false, Decidable.not_not, stv1, stv2, stv3, stv4]
    repeat (first | rw [if_pos (by omega)] | rw [if_neg (by omega)])
  | d + 1, i, N + 1, τ, h, h2, hs => by
    have c1 : ¬ (m : Int) ≤ (i : Int) := by omega
    have n1 : (7 * (i : Int) + 1).toNat = 7 * i + 1 := by omega
    have n6 : (7 * (i : Int) + 6).toNat = 7 * i + 6 := by omega
    have e1 : ∀ (s : IM) (a : Nat) (v : Int) (j : Nat), a ≠ 1 → iw s a i v 1 j = s 1 j := fun s a v j ha => iw_ne (by omega)
    generalize hτ1 : iw (iw (iw (iw (iw (iw (iw (iw (iw (iw τ 5 i 0) 6 i (τ 1 (7 * i + 1))) 7 i 0) 8 i 0) 9 i 0) 12 i 0) 13 i 0) 14 i 0) 15 i (-4)) 16 i (τ 1 (7 * i + 6)) = τ1
    have k2 : ∀ a b, ¬ ((5 ≤ a ∧ a ≤ 17) ∧ b = i) → τ1 a b = τ a b := fun a b hab => by
      rw [← hτ1, iw_ne (by omega), iw_ne (by omega), iw_ne (by omega), iw_ne (by omega), iw_ne (by omega), iw_ne (by omega), iw_ne (by omega), iw_ne (by omega), iw_ne (by omega), iw_ne (by omega)]
    have k1 : ∀ a, 5 ≤ a → a ≤ 17 → τ1 a i = begC (fun j => τ 1 (7 * i + j)) (fun a => τ a i) a := fun a _ _ => by
      rw [← hτ1]
      unfold begC iw
      dsimp only
      by_cases b5 : a = 5
      · subst b5; repeat (first | rw [if_pos (by omega)] | rw [if_neg (by omega)])
      · by_cases b6 : a = 6
        · subst b6; repeat (first | rw [if_pos (by omega)] | rw [if_neg (by omega)])
        · by_cases b7 : a = 7
          · subst b7; repeat (first | rw [if_pos (by omega)] | rw [if_neg (by omega)])
          · by_cases b8 : a = 8
            · subst b8; repeat (first | rw [if_pos (by omega)] | rw [if_neg (by omega)])
            · by_cases b9 : a = 9
              · subst b9; repeat (first | rw [if_pos (by omega)] | rw [if_neg (by omega)])
              · by_cases b12 : a = 12
                · subst b12; repeat (first | rw [if_pos (by omega)] | rw [if_neg (by omega)])
                · by_cases b13 : a = 13
                  · subst b13; repeat (first | rw [if_pos (by omega)] | rw [if_neg (by omega)])
                  · by_cases b14 : a = 14
                    · subst b14; repeat (first | rw [if_pos (by omega)] | rw [if_neg (by omega)])
                    · by_cases b15 : a = 15
                      · subst b15; repeat (first | rw [if_pos (by omega)] | rw [if_neg (by omega)])
                      · by_cases b16 : a = 16
                        · subst b16; repeat (first | rw [if_pos (by omega)] | rw [if_neg (by omega)])
                        · repeat (first | rw [if_pos (by omega)] | rw [if_neg (by omega)])
    have r2 : ∀ j, τ1 1 j = τ 1 j := fun j => k2 _ _ (by omega)
    rw [← eachM_step (g := fun τ p => begC (fun j => τ 1 (7 * p + j)) (fun a => τ a p)) (by omega) k1 k2 (fun p b hp => by rw [show (fun j => τ1 1 (7 * p + j)) = (fun j => τ 1 (7 * p + j)) from funext fun j => r2 _, show (fun a => τ1 a p) = (fun a => τ a p) from funext fun a => k2 _ _ (by omega)])]
    rw [← begM_L (K := K) (z := z) hm d (i + 1) N τ1 (by omega) (by omega) (by rw [k2 _ _ (by omega)]; exact hs)]
    rw [mm_lk_s, fX7_begin_L58]
    simp (implicitDefEqProofs := false) (maxSteps := 1000000) (disch := omega) only [hs, c1, n1, n6, e1, cast_s, ↓mm_lt_s, ↓cl_in, ↓cl_wi, ↓cl_has, ↓cl_isP, mL_le, lit_n, litL_n, mL_mI, mL_neg, mm_cl_s, mI_lt, mI_le, mI_eq, enc_at, enc_wr, enc_cp, mI_neg, mI_add, mI_sub, mI_mul, mI_ix, mm_ck_ok, mm_nz_ok, mm_bo_c, mm_bo_m0, mm_bo_m1, b01, Int.toNat_natCast, Int.reduceToNat, Int.reduceNeg, Int.reduceSub, Int.reduceAdd, Int.reduceMul, Int.reduceLT, Int.reduceLE, Int.reduceEq, ↓reduceIte, not_true, not_false_eq_true, not_true_eq_false, and_self, true_and, and_true, false_and, and_false, Decidable.not_not, stv1, stv2, stv3, stv4]
    rw [hτ1]
def bgB (τ : IM) : IM := iw (iw (iw (iw (iw (iw (iw τ 0 23 (τ 0 3)) 0 24 (τ 2 4)) 0 25 0) 0 26 (τ 2 1)) 0 27 (-1)) 18 0 (-1000)) 18 1 (-1000)
def beginM (m : Nat) (τ : IM) : IM := eachM (bgB τ) 0 m (fun p => begC (fun j => bgB τ 1 (7 * p + j)) (fun a => bgB τ a p))
theorem beginMs {m : Nat} {τ : IM} (hm : m ≤ 10) (hs : τ 0 1 = (m : Int)) : fX7_begin (enc τ) = some (mI 0, enc (beginM m τ)) := by
  have e1 : ∀ (s : IM) (b : Nat) (v : Int) (j : Nat), iw s 0 b v 2 j = s 2 j := fun s b v j => iw_ne (by omega)
  unfold fX7_begin
  generalize hfu : mm_fu = NF; have hNF : 4096 ≤ NF := by rw [← hfu]; exact Nat.le_refl _
  simp (implicitDefEqProofs := false) (maxSteps := 1000000) (disch := omega) only [e1, ↓mm_lt_s, ↓cl_in, ↓cl_wi, ↓cl_has, ↓cl_isP, mL_le, lit_n, litL_n, mL_mI, mL_neg, mm_cl_s, mI_lt, mI_le, mI_eq, enc_at, enc_wr, enc_cp, mI_neg, mI_add, mI_sub, mI_mul, mI_ix, mm_ck_ok, mm_nz_ok, mm_bo_c, mm_bo_m0, mm_bo_m1, b01, Int.toNat_natCast, Int.reduceToNat, Int.reduceNeg, Int.reduceSub, Int.reduceAdd, Int.reduceMul, Int.reduceLT, Int.reduceLE, Int.reduceEq, ↓reduceIte, not_true, not_false_eq_true, not_true_eq_false, and_self, true_and, and_true, false_and, and_false, Decidable.not_not, stv1, stv2, stv3, stv4]
  have E := begM_L (K := fun m9 => some (mI 0, m9)) (z := fun _ _ => none) hm m 0 NF (bgB τ) (by omega) (by omega) (by unfold bgB; rw [iw_ne (by omega), iw_ne (by omega), iw_ne (by omega), iw_ne (by omega), iw_ne (by omega), iw_ne (by omega), iw_ne (by omega)]; exact hs)
  rw [cast0] at E
  exact E
theorem bgB_ne {τ : IM} {a b : Nat} (h1 : ¬ (a = 0 ∧ (23 ≤ b ∧ b ≤ 27))) (h2 : ¬ (a = 18 ∧ b < 2)) : bgB τ a b = τ a b := by
  unfold bgB
  rw [iw_ne (by omega), iw_ne (by omega), iw_ne (by omega), iw_ne (by omega), iw_ne (by omega), iw_ne (by omega), iw_ne (by omega)]
theorem beginM_ne {m : Nat} {τ : IM} {a b : Nat} (h : ¬ ((5 ≤ a ∧ a ≤ 16) ∧ b < m)) (h1 : ¬ (a = 0 ∧ (23 ≤ b ∧ b ≤ 27))) (h2 : ¬ (a = 18 ∧ b < 2)) : beginM m τ a b = τ a b := by
  unfold beginM
  by_cases c : a = 17 ∧ b < m
  · rw [eachM_in (by omega) (by omega) c.2, c.1]
    show bgB τ 17 b = τ 17 b
    exact bgB_ne (by omega) (by omega)
  · rw [eachM_ne (by omega), bgB_ne h1 h2]
theorem beginM_g {m : Nat} {τ : IM} : (beginM m τ 0 23 = τ 0 3 ∧ beginM m τ 0 24 = τ 2 4 ∧ beginM m τ 0 25 = 0 ∧ beginM m τ 0 26 = τ 2 1 ∧ beginM m τ 0 27 = -1) ∧ beginM m τ 18 0 = -1000 ∧ beginM m τ 18 1 = -1000 := by
  unfold beginM bgB
  refine ⟨⟨?_, ?_, ?_, ?_, ?_⟩, ?_, ?_⟩
  · rw [eachM_ne (by omega), iw_ne (by omega), iw_ne (by omega), iw_ne (by omega), iw_ne (by omega), iw_ne (by omega), iw_ne (by omega), iw_eq rfl rfl]
  · rw [eachM_ne (by omega), iw_ne (by omega), iw_ne (by omega), iw_ne (by omega), iw_ne (by omega), iw_ne (by omega), iw_eq rfl rfl]
  · rw [eachM_ne (by omega), iw_ne (by omega), iw_ne (by omega), iw_ne (by omega), iw_ne (by omega), iw_eq rfl rfl]
  · rw [eachM_ne (by omega), iw_ne (by omega), iw_ne (by omega), iw_ne (by omega), iw_eq rfl rfl]
  · rw [eachM_ne (by omega), iw_ne (by omega), iw_ne (by omega), iw_eq rfl rfl]
  · rw [eachM_ne (by omega), iw_ne (by omega), iw_eq rfl rfl]
  · rw [eachM_ne (by omega), iw_eq rfl rfl]
theorem beginM_c {m p : Nat} {τ : IM} (hp : p < m) : (beginM m τ 5 p = 0 ∧ beginM m τ 6 p = τ 1 (7 * p + 1) ∧ beginM m τ 7 p = 0 ∧ beginM m τ 8 p = 0 ∧ beginM m τ 9 p = 0 ∧ beginM m τ 12 p = 0 ∧ beginM m τ 13 p = 0 ∧ beginM m τ 14 p = 0 ∧ beginM m τ 15 p = -4) ∧ beginM m τ 16 p = τ 1 (7 * p + 6) := by
  have e : ∀ j, bgB τ 1 j = τ 1 j := fun j => bgB_ne (by omega) (by omega)
  unfold beginM
  refine ⟨⟨?_, ?_, ?_, ?_, ?_, ?_, ?_, ?_, ?_⟩, ?_⟩
  · rw [eachM_in (by omega) (by omega) hp]; rfl
  · rw [eachM_in (by omega) (by omega) hp]; exact e _
  · rw [eachM_in (by omega) (by omega) hp]; rfl
  · rw [eachM_in (by omega) (by omega) hp]; rfl
  · rw [eachM_in (by omega) (by omega) hp]; rfl
  · rw [eachM_in (by omega) (by omega) hp]; rfl
  · rw [eachM_in (by omega) (by omega) hp]; rfl
  · rw [eachM_in (by omega) (by omega) hp]; rfl
  · rw [eachM_in (by omega) (by omega) hp]; rfl
  · rw [eachM_in (by omega) (by omega) hp]; exact e _
theorem WD.beg {x y pe : Nat → Int} (hs : WS x pe) (hy : y 5 = 0 ∧ y 6 = pe 1 ∧ y 7 = 0 ∧ y 8 = 0 ∧ y 9 = 0 ∧ y 12 = 0 ∧ y 13 = 0 ∧ y 14 = 0 ∧ y 15 = -4) : WD (begR x) y pe 0 0 := by
  obtain ⟨s1, s2, s3, s4, s5⟩ := hs
  obtain ⟨y5, y6, y7, y8, y9, y12, y13, y14, y15⟩ := hy
  unfold WD
  simp (implicitDefEqProofs := false) only [begR, y5, y6, y7, y8, y9, y12, y13, y14, y15, Nat.reduceEqDiff, Int.reduceEq, ne_eq, not_true_eq_false, not_false_eq_true, true_and, and_true, false_and, and_false, or_false, false_or, false_implies, true_implies, if_true, if_false, ↓reduceIte]
  omega
