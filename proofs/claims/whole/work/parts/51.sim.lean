/-! days: class and reference, minute by minute -/
/-- what the reference's day may write -/
def frM (a b : Nat) : Prop := ¬ (5 ≤ a ∧ a ≤ 15) ∧ a ≠ 17 ∧ a ≠ 18 ∧ ¬ (a = 0 ∧ (b = 23 ∨ b = 24 ∨ b = 25))
theorem DG.cong {σ τ σ' τ' : IM} {m : Nat} (h : DG σ τ m) (h1 : ∀ a b, a = 30 ∨ a = 32 ∨ a = 33 → σ' a b = σ a b) (h2 : ∀ a b, a = 0 ∨ a = 2 ∨ a = 18 → τ' a b = τ a b) : DG σ' τ' m := by
  obtain ⟨⟨g1, g2, hm⟩, g3, g4, g5, g6, gL, g7, g8, g9⟩ := h
  refine ⟨⟨?_, ?_, hm⟩, ?_, ?_, ?_, ?_, fun j hj hj1 => ?_, ?_, ?_, fun l hl => ?_⟩
  · rw [h1 _ _ (by omega)]; exact g1
  · rw [h2 _ _ (by omega)]; exact g2
  · rw [h1 _ _ (by omega), h2 _ _ (by omega)]; exact g3
  · rw [h1 _ _ (by omega), h2 _ _ (by omega)]; exact g4
  · rw [h1 _ _ (by omega), h2 _ _ (by omega)]; exact g5
  · rw [h1 _ _ (by omega), h2 _ _ (by omega)]; exact g6
  · rw [h1 _ _ (by omega), h2 _ _ (by omega)]; exact gL j hj hj1
  · rw [h1 _ _ (by omega), h2 _ _ (by omega)]; exact g7
  · rw [h1 _ _ (by omega), h1 _ _ (by omega), h2 _ _ (by omega), h2 _ _ (by omega), h2 _ _ (by omega)]; exact g8
  · rw [h2 _ _ (by omega)]; exact g9 l hl
theorem startsR {m : Nat} {t : Int} (ht : 0 ≤ t ∧ t ≤ 999) : ∀ (d i : Nat) (σ τ : IM), i + d = m → DG σ τ m → DW σ τ m (fun p => if p < i then t + 1 else t) (t + 1) → ∃ τ' : IM, (∀ a b, ¬ (5 ≤ a ∧ a ≤ 15) → a ≠ 17 → ¬ (a = 0 ∧ b = 24) → τ' a b = τ a b) ∧ DG (stF t d i σ) τ' m ∧ DW (stF t d i σ) τ' m (fun _ => t + 1) (t + 1) ∧ (∀ (N : Nat), d < N → ∀ (K : Mm → Aa) (z : Int32 → Mm → Aa), mm_lk z (fX7_startAll_L44 (mI t) K) N (mI i) (enc τ) = K (enc τ')) := by
  intro d
  induction d with
  | zero =>
    intro i σ τ h hG hR
    have e : i = m := by omega
    subst e
    refine ⟨τ, fun _ _ _ _ _ => rfl, hG, fun p hp => ?_, fun N hN K z => ?_⟩
    · have := hR p hp
      dsimp only at this
      rw [if_pos hp] at this
      exact this
    · obtain ⟨N, rfl⟩ : ∃ M, N = M + 1 := ⟨N - 1, by omega⟩
      have hs := hG.1.2.1
      have h10 := hG.1.2.2
      rw [mm_lk_s, fX7_startAll_L44]
      simp (implicitDefEqProofs := false) (maxSteps := 1000000) (disch := omega) only [hs, ↓mm_lt_s, ↓cl_in, ↓cl_wi, ↓cl_has, ↓cl_isP, mL_le, lit_n, litL_n, mL_mI, mL_neg, mm_cl_s, mI_lt, mI_le, mI_eq, enc_at, enc_wr, enc_cp, mI_neg, mI_add, mI_sub, mI_mul, mI_ix, mm_ck_ok, mm_nz_ok, mm_bo_c, mm_bo_m0, mm_bo_m1, b01, Int.toNat_natCast, Int.reduceToNat, Int.reduceNeg, Int.reduceSub, Int.reduceAdd, Int.reduceMul, Int.reduceLT, Int.reduceLE, Int.reduceEq, ↓reduceIte, not_true, not_false_eq_true, not_true_eq_false, and_self, true_and, and_true, false_and, and_false, Decidable.not_not, stv1, stv2, stv3, stv4]
      repeat (first | rw [if_pos (by omega)] | rw [if_neg (by omega)])
  | succ d ih =>
    intro i σ τ h hG hR
    obtain ⟨⟨g1, g2, hm⟩, g3, g4, g5, g6, gL, g7, g8, g9⟩ := id hG
    obtain ⟨rX, r4⟩ := hR i (by omega)
    obtain ⟨r1, r2, r3, -⟩ := id rX
    dsimp only at r4
    rw [if_neg (Nat.lt_irrefl i)] at r4
    have l5 := gL 5 (by omega) (by omega)
    have hL : 0 ≤ τ 2 5 ∧ τ 2 5 ≤ 500 := by omega
    obtain ⟨τ1, y1, y2, y3⟩ := stM (τ := τ) (i := i) (m := m) (t := t) (by omega) hm (by omega) g2 (by omega) g3.2 g4.2 hL (r4.CB r1 (by omega) (by omega) r2 r3)
    have hD := r4.isDue
    have xr : stS t σ i (34 + i) = stR t σ i := stS_i
    have x4 : (¬ (σ (34 + i) 8 = 0 ∧ σ (34 + i) 11 = t) → stS t σ i = σ) ∧ ((σ (34 + i) 8 = 0 ∧ σ (34 + i) 11 = t) → (byFd (σ 30 3) (σ (34 + i) 2) (σ 32 5) → stR t σ i = fsR (t + σ 32 5) (σ (34 + i)) ∧ stS t σ i 30 4 = σ 30 4) ∧ (¬ byFd (σ 30 3) (σ (34 + i) 2) (σ 32 5) → stR t σ i = onR (ropv (σ 30 2) (σ 30 4) i) (σ (34 + i)) ∧ stS t σ i 30 4 = σ 30 4 - ropd (σ 30 2) (σ 30 4) i)) := by
      refine ⟨fun c => stS_no c, fun c => ⟨fun b => ?_, fun b => ?_⟩⟩
      · unfold stR stS
        rw [if_pos c, if_pos c, if_pos b, if_pos b, setR_ne (by omega)]
        exact ⟨rfl, rfl⟩
      · unfold stR stS
        rw [if_pos c, if_pos c, if_neg b, if_neg b, setR_ne (by omega), iw_eq rfl rfl]
        exact ⟨rfl, rfl⟩
    rw [g3.1, r1.2.2.1.1, l5.1, g4.1, g5.1] at x4
    dsimp only at x4
    have lo : ∀ b, b < 8 → stS t σ i (34 + i) b = σ (34 + i) b := fun b hb => by rw [xr, stR_lo hb]
    have row : WD (stS t σ i (34 + i)) (fun a => τ1 a i) (fun j => τ 1 (7 * i + j)) (t + 1) (t + 1) ∧ (stS t σ i 30 4 = τ1 0 24 ∧ 0 ≤ τ1 0 24 ∧ τ1 0 24 ≤ 1000) ∧ τ1 16 i = τ 16 i := by
      by_cases dd : σ (34 + i) 8 = 0 ∧ σ (34 + i) 11 = t
      · rcases y3 with ⟨e1, e2⟩ | ⟨e1, e2⟩
        · exact absurd (hD.2 dd) e1
        · have x5 := x4.2 dd
          rcases e2 with ⟨k1, k2, k3⟩ | ⟨k1, k2, k3⟩
          · obtain ⟨q1, q2⟩ := x5.1 k1
            rw [xr, q1, q2, k2]
            exact ⟨(WD.fs r1 r4 dd.1 (by omega) hL).cy (fun a h5 h6 => k3 a h5 (by omega)), ⟨rfl, g4.2⟩, by rw [k3 16 (by omega) (by omega)]; rfl⟩
          · obtain ⟨q1, q2⟩ := x5.2 k1
            have rd := ropd_rng (r := τ 0 27) i g4.2.1
            rw [xr, q1, q2, k2]
            exact ⟨(WD.on r1 r4 dd.1 (ropv_01 _ _ _)).cy (fun a h5 h6 => k3 a h5 (by omega)), ⟨rfl, by omega⟩, by rw [k3 16 (by omega) (by omega)]; rfl⟩
      · rw [x4.1 dd]
        rcases y3 with ⟨e1, e2⟩ | ⟨e1, e2⟩
        · subst e2
          exact ⟨r4.no dd, g4, rfl⟩
        · exact absurd (hD.1 e1) dd
    have x2 : ∀ a b, a ≠ 34 + i → ¬ (a = 30 ∧ b = 4) → stS t σ i a b = σ a b := fun a b => stS_ne
    have hG1 : DG (stS t σ i) τ1 m := by
      refine ⟨⟨?_, ?_, hm⟩, ?_, row.2.1, ?_, ?_, fun j hj hj1 => ?_, ?_, ?_, fun l hl => ?_⟩
      · rw [x2 _ _ (by omega) (by omega)]; exact g1
      · rw [y2 _ _ (by omega) (by omega)]; exact g2
      · rw [x2 _ _ (by omega) (by omega), y2 _ _ (by omega) (by omega)]; exact g3
      · rw [x2 _ _ (by omega) (by omega), y2 _ _ (by omega) (by omega)]; exact g5
      · rw [x2 _ _ (by omega) (by omega), y2 _ _ (by omega) (by omega)]; exact g6
      · rw [x2 _ _ (by omega) (by omega), y2 _ _ (by omega) (by omega)]; exact gL j hj hj1
      · rw [x2 _ _ (by omega) (by omega), y2 _ _ (by omega) (by omega)]; exact g7
      · rw [x2 _ _ (by omega) (by omega), x2 _ _ (by omega) (by omega), y2 _ _ (by omega) (by omega), y2 _ _ (by omega) (by omega), y2 _ _ (by omega) (by omega)]; exact g8
      · rw [y2 _ _ (by omega) (by omega)]; exact g9 l hl
    have z1 : ∀ j, τ1 1 j = τ 1 j := fun j => y2 _ _ (by omega) (by omega)
    have hR1 : DW (stS t σ i) τ1 m (fun p => if p < i + 1 then t + 1 else t) (t + 1) := fun p hp => by
      have q := hR p hp
      by_cases e : p = i
      · subst e
        dsimp only
        rw [if_pos (Nat.lt_succ_self p), show (fun j => τ1 1 (7 * p + j)) = (fun j => τ 1 (7 * p + j)) from funext fun j => z1 _]
        exact ⟨rX.cong lo z1 row.2.2, row.1⟩
      · have z0 : stS t σ i (34 + p) = σ (34 + p) := funext fun b => x2 _ _ (by omega) (by omega)
        have z2 : ∀ a, τ1 a p = τ a p ∨ a = 0 := fun a => by
          by_cases c : a = 0
          · exact Or.inr c
          · exact Or.inl (y2 _ _ (by omega) (by omega))
        dsimp only at q ⊢
        have z3 : (if p < i + 1 then t + 1 else t) = (if p < i then t + 1 else t) := by
          by_cases c : p < i
          · rw [if_pos c, if_pos (by omega)]
          · rw [if_neg c, if_neg (by omega)]
        rw [z3, show (fun j => τ1 1 (7 * p + j)) = (fun j => τ 1 (7 * p + j)) from funext fun j => z1 _, z0]
        exact ⟨q.1.cong (fun b _ => by rw [z0]) z1 (y2 _ _ (by omega) (by omega)), q.2.cy (fun a h5 h6 => y2 _ _ (by omega) (by omega))⟩
    obtain ⟨τ', h1, h2, h3, h4⟩ := ih (i + 1) (stS t σ i) τ1 (by omega) hG1 hR1
    refine ⟨τ', fun a b ha hc hb => ?_, h2, h3, fun N hN K z => ?_⟩
    · by_cases c16 : a = 16
      · subst c16
        rw [h1 _ b (by omega) (by omega) (by omega)]
        by_cases cb : b = i
        · rw [cb]; exact row.2.2
        · exact y2 _ _ (by omega) (by omega)
      · rw [h1 a b ha hc hb, y2 a b (by omega) hb]
    · obtain ⟨N, rfl⟩ : ∃ M, N = M + 1 := ⟨N - 1, by omega⟩
      rw [y1]; exact h4 N (by omega) K z
/-- the ford and the starts -/
theorem ph_start {σ τ : IM} {m : Nat} {t : Int} (ht : 0 ≤ t ∧ t ≤ 999) (hG : DG σ τ m) (hR : DW σ τ m (fun _ => t) (t + 1)) : ∃ τ' : IM, (∀ a b, frM a b → τ' a b = τ a b) ∧ DG (stF t m 0 (fordF t m σ)) τ' m ∧ DW (stF t m 0 (fordF t m σ)) τ' m (fun _ => t + 1) (t + 1) ∧ fX7_startAll (mI t) (enc τ) = some (mI 0, enc τ') := by
  obtain ⟨⟨g1, g2, hm⟩, -⟩ := id hG
  generalize hτ1 : eachM τ 0 m (fun p => fordC t (τ 1 (7 * p + 4)) (fun a => τ a p)) = τ1
  have k1 : ∀ p, p < m → ∀ a, 5 ≤ a → a ≤ 17 → τ1 a p = fordC t (τ 1 (7 * p + 4)) (fun a => τ a p) a := fun p hp a h5 h6 => by rw [← hτ1, eachM_in ⟨h5, h6⟩ (by omega) hp]
  have k2 : ∀ a b, ¬ ((5 ≤ a ∧ a ≤ 17) ∧ b < m) → τ1 a b = τ a b := fun a b h => by rw [← hτ1, eachM_ne (by omega)]
  have k3 : ∀ p, p < m → ∀ a, 5 ≤ a → a ≤ 17 → a ≠ 9 → a ≠ 6 → a ≠ 10 → a ≠ 5 → a ≠ 15 → τ1 a p = τ a p := fun p hp a h5 h6 n1 n2 n3 n4 n5 => by
    rw [k1 p hp a h5 h6]
    unfold fordC comeC
    split
    · first
      | rfl
      | rw [if_neg n1, if_neg n2, if_neg n3, if_neg n4, if_neg n5]
    · rfl
  have k4 : ∀ a b, ¬ (5 ≤ a ∧ a ≤ 15) → τ1 a b = τ a b := fun a b h => by
    by_cases c : (a = 16 ∨ a = 17) ∧ b < m
    · exact k3 b c.2 a (by omega) (by omega) (by omega) (by omega) (by omega) (by omega) (by omega)
    · exact k2 _ _ (by omega)
  have hG1 : DG (fordF t m σ) τ1 m := hG.cong (fun a b h => fordF_ne (by omega)) (fun a b h => k2 _ _ (by omega))
  have hR1 : DW (fordF t m σ) τ1 m (fun p => if p < 0 then t + 1 else t) (t + 1) := fun p hp => by
    obtain ⟨q1, q2⟩ := hR p hp
    dsimp only at q2 ⊢
    rw [if_neg (by omega), fordF_row hp, show (fun j => τ1 1 (7 * p + j)) = (fun j => τ 1 (7 * p + j)) from funext fun j => k4 _ _ (by omega)]
    exact ⟨q1.cong (fun b hb => by rw [fordF_row hp, fordR_lo hb]) (fun j => k4 _ _ (by omega)) (k4 _ _ (by omega)), (WD.ford q1.1 q2 (by omega)).cy (fun a h5 h6 => k1 p hp a h5 (by omega))⟩
  obtain ⟨τ', h1, h2, h3, h4⟩ := startsR (m := m) (t := t) ht m 0 (fordF t m σ) τ1 (by omega) hG1 hR1
  refine ⟨τ', fun a b h => ?_, h2, h3, ?_⟩
  · obtain ⟨n1, n2, n3, n4⟩ := h
    rw [h1 a b n1 n2 (by omega), k4 a b n1]
  · unfold fX7_startAll
    generalize hfu : mm_fu = NF; have hNF : 4096 ≤ NF := by rw [← hfu]; exact Nat.le_refl _
    simp (implicitDefEqProofs := false) (maxSteps := 1000000) (disch := omega) only [↓mm_lt_s, ↓cl_in, ↓cl_wi, ↓cl_has, ↓cl_isP, mL_le, lit_n, litL_n, mL_mI, mL_neg, mm_cl_s, mI_lt, mI_le, mI_eq, enc_at, enc_wr, enc_cp, mI_neg, mI_add, mI_sub, mI_mul, mI_ix, mm_ck_ok, mm_nz_ok, mm_bo_c, mm_bo_m0, mm_bo_m1, b01, Int.toNat_natCast, Int.reduceToNat, Int.reduceNeg, Int.reduceSub, Int.reduceAdd, Int.reduceMul, Int.reduceLT, Int.reduceLE, Int.reduceEq, ↓reduceIte, not_true, not_false_eq_true, not_true_eq_false, and_self, true_and, and_true, false_and, and_false, Decidable.not_not, stv1, stv2, stv3, stv4]
    have E := fordM_L (K := fun m2 => mm_lk (fun (_ : Int32) (_ : Mm) => (none : Aa)) (fX7_startAll_L44 (mI t) (fun m4 => some (mI 0, m4))) NF (mI 0) m2) (z := fun _ _ => none) (t := t) hm (by omega) m 0 NF τ (by omega) (by omega) g2 (fun p _ hp => (hR p hp).2.CB (hR p hp).1.1 (show t ≤ 1000 by omega) (by omega) (hR p hp).1.2.1 (hR p hp).1.2.2.1)
    rw [cast0, hτ1] at E
    have E2 := h4 NF (by omega) (fun m2 => some (mI 0, m2)) (fun _ _ => none)
    rw [cast0] at E2
    exact E.trans E2
