/-- the day's own numbers, in both -/
def GL (σ τ : IM) (m : Nat) : Prop := (σ 30 6 = (m : Int) ∧ τ 0 1 = (m : Int) ∧ m ≤ 10) ∧ (σ 30 3 = τ 0 23 ∧ 1 ≤ τ 0 23 ∧ τ 0 23 ≤ 400) ∧ (σ 30 4 = τ 0 24 ∧ 0 ≤ τ 0 24 ∧ τ 0 24 ≤ 1000) ∧ (σ 30 2 = -1 ∧ τ 0 27 = -1) ∧ (∀ j, j < 6 → σ 32 j = τ 2 j ∧ lawLo j ≤ τ 2 j ∧ τ 2 j ≤ lawHi j) ∧ τ 0 26 = τ 2 1
/-- all walkers, in both -/
def RW (σ τ : IM) (m : Nat) (u : Nat → Int) (w : Int) : Prop := ∀ p, p < m → (WS (σ (34 + p)) (fun j => τ 1 (7 * p + j)) ∧ (0 ≤ τ 1 (7 * p + 2) ∧ τ 1 (7 * p + 2) ≤ 3) ∧ (1 ≤ τ 1 (7 * p + 3) ∧ τ 1 (7 * p + 3) ≤ 20)) ∧ WD (σ (34 + p)) (fun a => τ a p) (fun j => τ 1 (7 * p + j)) (u p) w
theorem WS.cong {x x' pe : Nat → Int} (h : WS x pe) (e : ∀ b, b < 5 → x' b = x b) : WS x' pe := by
  unfold WS at *
  rw [e 0 (by omega), e 1 (by omega), e 2 (by omega), e 3 (by omega), e 4 (by omega)]
  exact h
theorem WD.cy {x y y' pe : Nat → Int} {u w : Int} (h : WD x y pe u w) (e : ∀ a, 5 ≤ a → a ≤ 17 → y' a = y a) : WD x y' pe u w := by
  unfold WD at *
  rw [e 5 (by omega) (by omega), e 6 (by omega) (by omega), e 7 (by omega) (by omega), e 8 (by omega) (by omega), e 9 (by omega) (by omega), e 10 (by omega) (by omega), e 11 (by omega) (by omega), e 12 (by omega) (by omega), e 13 (by omega) (by omega), e 14 (by omega) (by omega), e 15 (by omega) (by omega)]
  exact h
theorem WD.CB {x y pe : Nat → Int} {u w : Int} (hs : WS x pe) (h : WD x y pe u w) (hu : u ≤ 600) (hw : w ≤ 600) (h2 : 0 ≤ pe 2 ∧ pe 2 ≤ 3) (h3 : 1 ≤ pe 3 ∧ pe 3 ≤ 20) : CB y pe := by
  obtain ⟨s1, s2, s3, s4, s5⟩ := hs
  obtain ⟨⟨a1, a2⟩, a3, ⟨a4, a5, a6⟩, -, a11⟩ := h
  have a12 : 0 ≤ y 12 ∧ y 12 ≤ u := by split at a6 <;> omega
  clear a6
  refine ⟨by omega, by omega, by omega, ?_, by omega, by omega, by omega, h2, h3, by omega, by omega⟩
  clear a1 a2 a3 a4 a5
  omega
theorem startsL {m : Nat} {t : Int} (ht : 0 ≤ t ∧ t ≤ 500) : ∀ (d i : Nat) (σ τ : IM), i + d = m → GL σ τ m → RW σ τ m (fun p => if p < i then t + 1 else t) (t + 1) → ∃ σ' τ' : IM, (∀ a b, ¬ (34 ≤ a ∧ a < 44) → ¬ (a = 30 ∧ b = 4) → σ' a b = σ a b) ∧ (∀ a b, ¬ (5 ≤ a ∧ a ≤ 17) → ¬ (a = 0 ∧ b = 24) → τ' a b = τ a b) ∧ GL σ' τ' m ∧ RW σ' τ' m (fun _ => t + 1) (t + 1) ∧ (∀ (N : Nat), d < N → ∀ (K : Mm → Aa) (z : Int32 → Mm → Aa), mm_lk z (fX0_start_L2 (mI t) K) N (mI i) (enc σ) = K (enc σ')) ∧ (∀ (N : Nat), d < N → ∀ (K : Mm → Aa) (z : Int32 → Mm → Aa), mm_lk z (fX7_startAll_L44 (mI t) K) N (mI i) (enc τ) = K (enc τ')) := by
  intro d
  induction d with
  | zero =>
    intro i σ τ h hG hR
    have e : i = m := by omega
    subst e
    refine ⟨σ, τ, fun _ _ _ _ => rfl, fun _ _ _ _ => rfl, hG, fun p hp => ?_, fun N hN K z => ?_, fun N hN K z => ?_⟩
    · have := hR p hp
      dsimp only at this
      rw [if_pos hp] at this
      exact this
    · obtain ⟨N, rfl⟩ : ∃ M, N = M + 1 := ⟨N - 1, by omega⟩
      have hs := hG.1.1
      have h10 := hG.1.2.2
      rw [mm_lk_s, fX0_start_L2]
      simp (implicitDefEqProofs := false) (maxSteps := 1000000) (disch := omega) only [hs, ↓mm_lt_s, ↓cl_in, ↓cl_wi, ↓cl_has, ↓cl_isP, mL_le, lit_n, litL_n, mL_mI, mL_neg, mm_cl_s, mI_lt, mI_le, mI_eq, enc_at, enc_wr, enc_cp, mI_neg, mI_add, mI_sub, mI_mul, mI_ix, mm_ck_ok, mm_nz_ok, mm_bo_c, mm_bo_m0, mm_bo_m1, b01, Int.toNat_natCast, Int.reduceToNat, Int.reduceNeg, Int.reduceSub, Int.reduceAdd, Int.reduceMul, Int.reduceLT, Int.reduceLE, Int.reduceEq, ↓reduceIte, not_true, not_false_eq_true, not_true_eq_false, and_self, true_and, and_true, false_and, and_false, Decidable.not_not, stv1, stv2, stv3, stv4]
      repeat (first | rw [if_pos (by omega)] | rw [if_neg (by omega)])
    · obtain ⟨N, rfl⟩ : ∃ M, N = M + 1 := ⟨N - 1, by omega⟩
      have hs := hG.1.2.1
      have h10 := hG.1.2.2
      rw [mm_lk_s, fX7_startAll_L44]
      simp (implicitDefEqProofs := false) (maxSteps := 1000000) (disch := omega) only [hs, ↓mm_lt_s, ↓cl_in, ↓cl_wi, ↓cl_has, ↓cl_isP, mL_le, lit_n, litL_n, mL_mI, mL_neg, mm_cl_s, mI_lt, mI_le, mI_eq, enc_at, enc_wr, enc_cp, mI_neg, mI_add, mI_sub, mI_mul, mI_ix, mm_ck_ok, mm_nz_ok, mm_bo_c, mm_bo_m0, mm_bo_m1, b01, Int.toNat_natCast, Int.reduceToNat, Int.reduceNeg, Int.reduceSub, Int.reduceAdd, Int.reduceMul, Int.reduceLT, Int.reduceLE, Int.reduceEq, ↓reduceIte, not_true, not_false_eq_true, not_true_eq_false, and_self, true_and, and_true, false_and, and_false, Decidable.not_not, stv1, stv2, stv3, stv4]
      repeat (first | rw [if_pos (by omega)] | rw [if_neg (by omega)])
  | succ d ih =>
    intro i σ τ h hG hR
    obtain ⟨⟨g1, g2, g3⟩, ⟨g4, g5⟩, ⟨g6, g7⟩, ⟨g8, g9⟩, g10, g11⟩ := id hG
    obtain ⟨⟨r1, r2, r3⟩, r4⟩ := hR i (by omega)
    dsimp only at r4
    rw [if_neg (Nat.lt_irrefl i)] at r4
    have l5 := g10 5 (by omega)
    have l6 : lawLo 5 = 0 := rfl
    have l7 := lawB 5
    have l8 := lawB2 5
    have hL : 0 ≤ τ 2 5 ∧ τ 2 5 ≤ 500 := by omega
    obtain ⟨σ1, x1, x2, x3⟩ := stX (σ := σ) (i := i) (m := m) (t := t) (by omega) g3 (by omega) g1 g8 (by rw [g4]; exact g5) (by rw [g6]; exact g7) (by rw [l5.1]; exact hL) (r4.RB r1 (by omega) (by omega))
    obtain ⟨τ1, y1, y2, y3⟩ := stM (τ := τ) (i := i) (m := m) (t := t) (by omega) g3 (by omega) g2 g9 g5 g7 hL (r4.CB r1 (by omega) (by omega) r2 r3)
    have hD := r4.isDue
    have hpe : (fun j => τ1 1 (7 * i + j)) = (fun j => τ 1 (7 * i + j)) := funext fun j => y2 _ _ (by omega) (by omega)
    rw [g4, r1.2.2.1.1, l5.1, g6] at x3
    dsimp only at x3
    have row : (WS (σ1 (34 + i)) (fun j => τ 1 (7 * i + j)) ∧ WD (σ1 (34 + i)) (fun a => τ1 a i) (fun j => τ 1 (7 * i + j)) (t + 1) (t + 1)) ∧ (σ1 30 4 = τ1 0 24 ∧ 0 ≤ τ1 0 24 ∧ τ1 0 24 ≤ 1000) := by
      rcases x3 with ⟨d1, d2⟩ | ⟨d1, d2⟩
      · rcases y3 with ⟨e1, e2⟩ | ⟨e1, e2⟩
        · subst d2
          subst e2
          exact ⟨⟨r1, r4.no d1⟩, g6, g7⟩
        · exact absurd (hD.1 e1) d1
      · rcases y3 with ⟨e1, e2⟩ | ⟨e1, e2⟩
        · exact absurd (hD.2 d1) e1
        · rcases d2 with ⟨f1, f2, f3⟩ | ⟨f1, f2, f3⟩
          · rcases e2 with ⟨k1, k2, k3⟩ | ⟨k1, k2, k3⟩
            · rw [f3, f2, k2]
              exact ⟨⟨r1.cong (fun b hb => by unfold fsR; rw [if_neg (by omega), if_neg (by omega)]), (WD.fs r1 r4 d1.1 ht hL).cy k3⟩, rfl, g7⟩
            · exact absurd f1 k1
          · rcases e2 with ⟨k1, k2, k3⟩ | ⟨k1, k2, k3⟩
            · exact absurd k1 f1
            · rw [f3, f2, k2]
              refine ⟨⟨r1.cong (fun b hb => by unfold onR; rw [if_neg (by omega), if_neg (by omega), if_neg (by omega), if_neg (by omega)]), (WD.on r1 r4 d1.1 (by split <;> omega)).cy k3⟩, rfl, ?_⟩
              split <;> omega
    have hG1 : GL σ1 τ1 m := by
      refine ⟨⟨by rw [x2 _ _ (by omega) (by omega)]; exact g1, by rw [y2 _ _ (by omega) (by omega)]; exact g2, g3⟩, ?_, row.2, ⟨by rw [x2 _ _ (by omega) (by omega)]; exact g8, by rw [y2 _ _ (by omega) (by omega)]; exact g9⟩, fun j hj => ?_, ?_⟩
      · rw [x2 _ _ (by omega) (by omega), y2 _ _ (by omega) (by omega)]; exact ⟨g4, g5⟩
      · rw [x2 _ _ (by omega) (by omega), y2 _ _ (by omega) (by omega)]; exact g10 j hj
      · rw [y2 _ _ (by omega) (by omega), y2 _ _ (by omega) (by omega)]; exact g11
    have hR1 : RW σ1 τ1 m (fun p => if p < i + 1 then t + 1 else t) (t + 1) := fun p hp => by
      have q := hR p hp
      by_cases e : p = i
      · subst e
        have z1 : τ1 1 (7 * p + 2) = τ 1 (7 * p + 2) := y2 _ _ (by omega) (by omega)
        have z2 : τ1 1 (7 * p + 3) = τ 1 (7 * p + 3) := y2 _ _ (by omega) (by omega)
        dsimp only
        rw [if_pos (Nat.lt_succ_self p), hpe, z1, z2]
        exact ⟨⟨row.1.1, r2, r3⟩, row.1.2⟩
      · have z0 : σ1 (34 + p) = σ (34 + p) := funext fun b => x2 _ _ (by omega) (by omega)
        have z1 : τ1 1 = τ 1 := funext fun b => y2 _ _ (by omega) (by omega)
        have z2 : ∀ a, 5 ≤ a → a ≤ 17 → τ1 a p = τ a p := fun a _ _ => y2 _ _ (by omega) (by omega)
        dsimp only at q ⊢
        rw [z0, z1]
        have z3 : (if p < i + 1 then t + 1 else t) = (if p < i then t + 1 else t) := by
          by_cases c : p < i
          · rw [if_pos c, if_pos (by omega)]
          · rw [if_neg c, if_neg (by omega)]
        rw [z3]
        exact ⟨q.1, q.2.cy z2⟩
    obtain ⟨σ', τ', h1, h2, h3, h4, h5, h6⟩ := ih (i + 1) σ1 τ1 (by omega) hG1 hR1
    refine ⟨σ', τ', fun a b ha hb => ?_, fun a b ha hb => ?_, h3, h4, fun N hN K z => ?_, fun N hN K z => ?_⟩
    · rw [h1 a b ha hb, x2 a b (by omega) hb]
    · rw [h2 a b ha hb, y2 a b (by omega) hb]
    · obtain ⟨N, rfl⟩ : ∃ M, N = M + 1 := ⟨N - 1, by omega⟩
      rw [x1]; exact h5 N (by omega) K z
    · obtain ⟨N, rfl⟩ : ∃ M, N = M + 1 := ⟨N - 1, by omega⟩
      rw [y1]; exact h6 N (by omega) K z
