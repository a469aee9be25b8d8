theorem WD.WB {σ : IM} {p : Nat} {y pe : Nat → Int} {u w : Int} (h : WD (σ (34 + p)) y pe u w) (hw : w ≤ 600) : WB σ p := by
  obtain ⟨⟨a1, a2⟩, a3, ⟨a4, a5, a6⟩, ⟨a7, a8, a9, a10⟩, a11⟩ := h
  clear a6 a3 a1 a2
  exact ⟨by omega, by omega, by omega, by omega⟩
theorem WD.WM {τ : IM} {p : Nat} {x pe : Nat → Int} {u w : Int} (h : WD x (fun a => τ a p) pe u w) : WM τ p := by
  obtain ⟨⟨a1, a2⟩, a3, ⟨a4, a5, a6⟩, ⟨a7, a8, a9, a10⟩, a11⟩ := h
  clear a6 a3 a1 a2
  dsimp only at *
  exact ⟨by omega, by omega, by omega, fun e => by omega⟩
/-- a phase that changes rows and columns only -/
theorem GL.cong {σ τ σ' τ' : IM} {m : Nat} (h : GL σ τ m) (h1 : ∀ a b, a = 30 ∨ a = 32 → σ' a b = σ a b) (h2 : ∀ a b, a = 0 ∨ a = 2 → τ' a b = τ a b) : GL σ' τ' m := by
  obtain ⟨⟨g1, g2, g3⟩, ⟨g4, g5⟩, ⟨g6, g7⟩, ⟨g8, g9⟩, g10, g11⟩ := h
  refine ⟨⟨by rw [h1 _ _ (by omega)]; exact g1, by rw [h2 _ _ (by omega)]; exact g2, g3⟩, ?_, ?_, ⟨by rw [h1 _ _ (by omega)]; exact g8, by rw [h2 _ _ (by omega)]; exact g9⟩, fun j hj => ?_, ?_⟩
  · rw [h1 _ _ (by omega), h2 _ _ (by omega)]; exact ⟨g4, g5⟩
  · rw [h1 _ _ (by omega), h2 _ _ (by omega)]; exact ⟨g6, g7⟩
  · rw [h1 _ _ (by omega), h2 _ _ (by omega)]; exact g10 j hj
  · rw [h2 _ _ (by omega), h2 _ _ (by omega)]; exact g11
/-- rows and columns changed by functions of their own -/
theorem RW.ea {σ τ : IM} {m : Nat} {u u' : Nat → Int} {w w' : Int} {g f : Nat → Nat → Int} (h : RW σ τ m u w) (hw : ∀ p, p < m → ∀ b, b < 5 → g p b = σ (34 + p) b) (hd : ∀ p, p < m → WD (g p) (f p) (fun j => τ 1 (7 * p + j)) (u' p) w') : RW (each σ 0 m g) (eachM τ 0 m f) m u' w' := fun p hp => by
  have z1 : eachM τ 0 m f 1 = τ 1 := funext fun b => eachM_ne (by omega)
  have z2 : each σ 0 m g (34 + p) = g p := funext fun b => each_in (by omega) hp
  rw [z1, z2]
  obtain ⟨⟨q1, q2⟩, q3⟩ := h p hp
  exact ⟨⟨q1.cong (hw p hp), q2⟩, (hd p hp).cy (fun a h5 h6 => eachM_in ⟨h5, h6⟩ (by omega) hp)⟩
theorem ph_walk {σ τ : IM} {m : Nat} {t : Int} (ht : 0 ≤ t ∧ t ≤ 500) (hG : GL σ τ m) (hR : RW σ τ m (fun _ => t) t) : fX0_walk (enc σ) = some (mI 0, enc (each σ 0 m (walkR σ))) ∧ fX7_goOn (enc τ) = some (mI 0, enc (eachM τ 0 m (goR τ))) ∧ GL (each σ 0 m (walkR σ)) (eachM τ 0 m (goR τ)) m ∧ RW (each σ 0 m (walkR σ)) (eachM τ 0 m (goR τ)) m (fun _ => t) t := by
  obtain ⟨⟨g1, g2, g3⟩, ⟨g4, g5⟩, -⟩ := id hG
  refine ⟨walk_s g3 g1 (by rw [g4]; exact g5) (fun p hp => (hR p hp).2.WB (by omega)), goOn_s g3 g2 g5 (fun p hp => (hR p hp).2.WM), hG.cong (fun a b h => each_ne (by omega)) (fun a b h => eachM_ne (by omega)), RW.ea hR (fun p hp b hb => ?_) (fun p hp => ?_)⟩
  · unfold walkR
    by_cases c : σ (34 + p) 8 = 1
    · rw [if_pos c, if_neg (by omega), if_neg (by omega)]
    · rw [if_neg c]
  · exact WD.walk (fun _ => rfl) (fun _ => rfl) (hR p hp).2 g4 g5
theorem ph_ford {σ τ : IM} {m : Nat} {t : Int} (ht : 0 ≤ t ∧ t ≤ 500) (hG : GL σ τ m) (hR : RW σ τ m (fun _ => t) (t + 1)) : ∃ σ' τ' : IM, (∀ a b, ¬ (34 ≤ a ∧ a < 44) → σ' a b = σ a b) ∧ (∀ a b, ¬ (5 ≤ a ∧ a ≤ 17) → τ' a b = τ a b) ∧ GL σ' τ' m ∧ RW σ' τ' m (fun _ => t) (t + 1) ∧ fX0_comeByFord (mI t) (enc σ) = some (mI 0, enc σ') ∧ ∀ (N : Nat), m < N → ∀ (K : Mm → Aa) (z : Int32 → Mm → Aa), mm_lk z (fX7_startAll_L2 (mI t) K) N (mI 0) (enc τ) = K (enc τ') := by
  obtain ⟨⟨g1, g2, g3⟩, -⟩ := id hG
  refine ⟨each σ 0 m (fun p => fordR t (σ (34 + p))), eachM τ 0 m (fun p => fordC t (τ 1 (7 * p + 4)) (fun a => τ a p)), fun a b h => each_ne (by omega), fun a b h => eachM_ne (by omega), hG.cong (fun a b h => each_ne (by omega)) (fun a b h => eachM_ne (by omega)), RW.ea hR (fun p hp b hb => ?_) (fun p hp => WD.ford (hR p hp).1.1 (hR p hp).2 (by omega)), ?_, fun N hN K z => ?_⟩
  · unfold fordR comeR
    by_cases c : σ (34 + p) 8 = 3 ∧ σ (34 + p) 11 = t
    · rw [if_pos c, if_neg (by omega), if_neg (by omega)]
      split
      · rw [if_neg (by omega), if_neg (by omega)]
        exact if_neg (by omega)
      · rw [if_neg (by omega), if_neg (by omega)]
        exact if_neg (by omega)
    · rw [if_neg c]
  · unfold fX0_comeByFord
    generalize hfu : mm_fu = NF; have hNF : 4096 ≤ NF := by rw [← hfu]; exact Nat.le_refl _
    simp (implicitDefEqProofs := false) (maxSteps := 1000000) (disch := omega) only [↓mm_lt_s, ↓cl_in, ↓cl_wi, ↓cl_has, ↓cl_isP, mL_le, lit_n, litL_n, mL_mI, mL_neg, mm_cl_s, mI_lt, mI_le, mI_eq, enc_at, enc_wr, enc_cp, mI_neg, mI_add, mI_sub, mI_mul, mI_ix, mm_ck_ok, mm_nz_ok, mm_bo_c, mm_bo_m0, mm_bo_m1, b01, Int.toNat_natCast, Int.reduceToNat, Int.reduceNeg, Int.reduceSub, Int.reduceAdd, Int.reduceMul, Int.reduceLT, Int.reduceLE, Int.reduceEq, ↓reduceIte, not_true, not_false_eq_true, not_true_eq_false, and_self, true_and, and_true, false_and, and_false, Decidable.not_not, stv1, stv2, stv3, stv4]
    have E := fordX_L (K := fun m2 => some (mI 0, m2)) (z := fun _ _ => none) (t := t) g3 (by omega) m 0 NF σ (by omega) (by omega) g1 (fun p _ hp => (hR p hp).2.RB (hR p hp).1.1 (show t ≤ 600 by omega) (by omega))
    rw [cast0] at E
    exact E
  · have E := fordM_L (K := K) (z := z) (t := t) g3 (by omega) m 0 N τ (by omega) (by omega) g2 (fun p _ hp => (hR p hp).2.CB (hR p hp).1.1 (show t ≤ 600 by omega) (by omega) (hR p hp).1.2.1 (hR p hp).1.2.2)
    rw [cast0] at E
    exact E
