/-! days: the class's starts, its whole minute -/
def stF (t : Int) : Nat → Nat → IM → IM
  | 0, _, σ => σ
  | d + 1, i, σ => stF t d (i + 1) (stS t σ i)
theorem stS_ne {t : Int} {σ : IM} {i a b : Nat} (h1 : a ≠ 34 + i) (h2 : ¬ (a = 30 ∧ b = 4)) : stS t σ i a b = σ a b := by
  unfold stS
  split
  · split
    · exact setR_ne h1
    · rw [setR_ne h1, iw_ne h2]
  · rfl
theorem stS_4 {t : Int} {σ : IM} {i : Nat} : stS t σ i 30 4 = σ 30 4 ∨ stS t σ i 30 4 = σ 30 4 - ropd (σ 30 2) (σ 30 4) i := by
  unfold stS
  split
  · split
    · exact Or.inl (setR_ne (by omega))
    · rw [setR_ne (by omega), iw_eq rfl rfl]
      exact Or.inr rfl
  · exact Or.inl rfl
theorem stS_no {t : Int} {σ : IM} {i : Nat} (h : ¬ (σ (34 + i) 8 = 0 ∧ σ (34 + i) 11 = t)) : stS t σ i = σ := if_neg h
/-- what a start makes of a row -/
def stR (t : Int) (σ : IM) (i : Nat) : Nat → Int := if σ (34 + i) 8 = 0 ∧ σ (34 + i) 11 = t then (if byFd (σ 30 3) (σ (34 + i) 2) (σ 32 5) then fsR (t + σ 32 5) (σ (34 + i)) else onR (ropv (σ 30 2) (σ 30 4) i) (σ (34 + i))) else σ (34 + i)
theorem stS_i {t : Int} {σ : IM} {i : Nat} : stS t σ i (34 + i) = stR t σ i := by
  unfold stS stR
  split
  · split
    · rw [setR_i]
    · rw [setR_i]
  · rfl
theorem stR_lo {t : Int} {σ : IM} {i b : Nat} (hb : b < 8) : stR t σ i b = σ (34 + i) b := by
  unfold stR
  split
  · split
    · unfold fsR
      rw [if_neg (by omega), if_neg (by omega)]
    · unfold onR
      rw [if_neg (by omega), if_neg (by omega), if_neg (by omega), if_neg (by omega)]
  · rfl
theorem stR_8 {t : Int} {σ : IM} {i : Nat} : (stR t σ i = σ (34 + i)) ∨ (σ (34 + i) 8 = 0 ∧ (stR t σ i 8 = 3 ∨ stR t σ i 8 = 1) ∧ stR t σ i 9 = σ (34 + i) 9) := by
  unfold stR
  split
  · rename_i h
    split
    · exact Or.inr ⟨h.1, Or.inl rfl, rfl⟩
    · exact Or.inr ⟨h.1, Or.inr rfl, rfl⟩
  · exact Or.inl rfl
theorem stR_bd {t u v w : Int} {σ : IM} {i : Nat} (h0 : XT (σ (34 + i))) (hx : XD (σ (34 + i)) u v w) (ht : 0 ≤ t ∧ t ≤ 1000) (hL : 0 ≤ σ 32 5 ∧ σ 32 5 ≤ 500) : XD (stR t σ i) u v (w + 1) := by
  unfold stR
  split
  · rename_i h
    split
    · exact hx.fs h.1 (by omega)
    · exact hx.on h0 h.1 (ropv_01 _ _ _)
  · exact hx.up
theorem stF_ne {t : Int} : ∀ d i σ a b, ¬ (34 + i ≤ a ∧ a < 34 + i + d) → ¬ (a = 30 ∧ b = 4) → stF t d i σ a b = σ a b
  | 0, _, _, _, _, _, _ => rfl
  | d + 1, i, σ, a, b, h1, h2 => by
    unfold stF
    rw [stF_ne d (i + 1) _ a b (by omega) h2, stS_ne (by omega) h2]
theorem startX_L {K : Mm → Aa} {z : Int32 → Mm → Aa} {m : Nat} {t : Int} (hm : m ≤ 10) (ht : 0 ≤ t ∧ t ≤ 1000) : ∀ (d i N : Nat) (σ : IM), i + d = m → d < N → σ 30 6 = (m : Int) → (-1 ≤ σ 30 2 ∧ σ 30 2 < 1024) → (1 ≤ σ 30 3 ∧ σ 30 3 ≤ 400) → (0 ≤ σ 30 4 ∧ σ 30 4 ≤ 1000) → (0 ≤ σ 32 5 ∧ σ 32 5 ≤ 500) → (∀ p, i ≤ p → p < m → RB (σ (34 + p))) → mm_lk z (fX0_start_L2 (mI t) K) N (mI i) (enc σ) = K (enc (stF t d i σ))
  | d, i, 0, σ, _, h, _, _, _, _, _, _ => absurd h (Nat.not_lt_zero d)
  | 0, i, N + 1, σ, h, _, hs, _, _, _, _, _ => by
    have e : i = m := by omega
    subst e
    rw [mm_lk_s, fX0_start_L2]
    simp (implicitDefEqProofs := false) (maxSteps := 1000000) (disch := omega) only [hs, ↓mm_lt_s, ↓cl_in, ↓cl_wi, ↓cl_has, ↓cl_isP, mL_le, lit_n, litL_n, mL_mI, mL_neg, mm_cl_s, mI_lt, mI_le, mI_eq, enc_at, enc_wr, enc_cp, mI_neg, mI_add, mI_sub, mI_mul, mI_ix, mm_ck_ok, mm_nz_ok, mm_bo_c, mm_bo_m0, mm_bo_m1, b01, Int.toNat_natCast, Int.reduceToNat, Int.reduceNeg, Int.reduceSub, Int.reduceAdd, Int.reduceMul, Int.reduceLT, Int.reduceLE, Int.reduceEq, ↓reduceIte, not_true, not_false_eq_true, not_true_eq_false, and_self, true_and, and_true, false_and, and_false, Decidable.not_not, stv1, stv2, stv3, stv4]
    repeat (first | rw [if_pos (by omega)] | rw [if_neg (by omega)])
    rfl
  | d + 1, i, N + 1, σ, h, h2, hs, g2, g3, g4, g5, hW => by
    rw [stX (by omega) hm ht hs g2 g3 g4 g5 (hW i (by omega) (by omega))]
    have r4 : 0 ≤ stS t σ i 30 4 ∧ stS t σ i 30 4 ≤ 1000 := by
      have := ropd_rng (r := σ 30 2) i g4.1
      rcases stS_4 (t := t) (σ := σ) (i := i) with e | e <;> rw [e] <;> omega
    exact startX_L hm ht d (i + 1) N (stS t σ i) (by omega) (by omega) (by rw [stS_ne (by omega) (by omega)]; exact hs) (by rw [stS_ne (by omega) (by omega)]; exact g2) (by rw [stS_ne (by omega) (by omega)]; exact g3) r4 (by rw [stS_ne (by omega) (by omega)]; exact g5) (fun p h3 h4 => by
      rw [show stS t σ i (34 + p) = σ (34 + p) from funext fun b => stS_ne (by omega) (by omega)]
      exact hW p (by omega) h4)
/-- what holds between two minutes -/
def XI (σ : IM) (m : Nat) (t : Int) : Prop := XG σ m t ∧ ∀ p, p < m → XT (σ (34 + p)) ∧ XD (σ (34 + p)) t t t
/-- who is at the end is held back -/
def HI (σ : IM) (m : Nat) : Prop := ∀ p, p < m → σ (34 + p) 8 = 2 → hv m σ p = 1
theorem hv_mono {m p : Nat} {σ σ1 : IM} (h7 : σ1 (34 + p) 7 = σ (34 + p) 7) (h9 : σ1 (34 + p) 9 = σ (34 + p) 9) (h : ∀ q, q < m → σ (34 + q) 8 = 1 → σ1 (34 + q) 8 = 1 ∧ σ1 (34 + q) 9 = σ (34 + q) 9) (hh : hv m σ p = 1) : hv m σ1 p = 1 := by
  obtain ⟨q, h1, h2, h3, h4⟩ := hv_iff.1 hh
  obtain ⟨k1, k2⟩ := h q h1 h3
  exact hv_iff.2 ⟨q, h1, by rw [h7]; exact h2, k1, by rw [k2, h9]; exact h4⟩
theorem stF_inv {m : Nat} {t u v w : Int} (ht : 0 ≤ t ∧ t ≤ 1000) : ∀ (d i : Nat) (σ : IM), i + d = m → (0 ≤ σ 30 4 ∧ σ 30 4 ≤ 1000) → (0 ≤ σ 32 5 ∧ σ 32 5 ≤ 500) → (∀ p, p < m → XT (σ (34 + p)) ∧ XD (σ (34 + p)) u v (if p < i then w + 1 else w)) → HI σ m → (0 ≤ stF t d i σ 30 4 ∧ stF t d i σ 30 4 ≤ 1000) ∧ (∀ p, p < m → XT (stF t d i σ (34 + p)) ∧ XD (stF t d i σ (34 + p)) u v (w + 1)) ∧ HI (stF t d i σ) m
  | 0, i, σ, h, g4, _, hW, hH => ⟨g4, fun p hp => by have := hW p hp; rw [if_pos (by omega)] at this; exact this, hH⟩
  | d + 1, i, σ, h, g4, g5, hW, hH => by
    have r4 : 0 ≤ stS t σ i 30 4 ∧ stS t σ i 30 4 ≤ 1000 := by
      have := ropd_rng (r := σ 30 2) i g4.1
      rcases stS_4 (t := t) (σ := σ) (i := i) with e | e <;> rw [e] <;> omega
    have row : ∀ p, p ≠ i → stS t σ i (34 + p) = σ (34 + p) := fun p hp => funext fun b => stS_ne (by omega) (by omega)
    refine stF_inv ht d (i + 1) (stS t σ i) (by omega) r4 (by rw [stS_ne (by omega) (by omega)]; exact g5) (fun p hp => ?_) (fun p hp h8 => ?_)
    · by_cases e : p = i
      · subst e
        have q := hW p hp
        rw [if_neg (Nat.lt_irrefl p)] at q
        rw [stS_i, if_pos (Nat.lt_succ_self p)]
        exact ⟨q.1.cong (fun b hb => stR_lo hb), stR_bd q.1 q.2 ht g5⟩
      · rw [row p e]
        have q := hW p hp
        by_cases c : p < i
        · rw [if_pos c] at q
          rw [if_pos (by omega)]
          exact q
        · rw [if_neg c] at q
          rw [if_neg (by omega)]
          exact q
    · have h8' : σ (34 + p) 8 = 2 ∧ stS t σ i (34 + p) = σ (34 + p) := by
        by_cases e : p = i
        · subst e
          rw [stS_i] at h8 ⊢
          rcases stR_8 (t := t) (σ := σ) (i := p) with k | k
          · rw [k] at h8
            exact ⟨h8, k⟩
          · omega
        · rw [row p e] at h8 ⊢
          exact ⟨h8, rfl⟩
      refine hv_mono (by rw [h8'.2]) (by rw [h8'.2]) (fun q hq h1 => ?_) (hH p hp h8'.1)
      by_cases e : q = i
      · subst e
        rw [stS_i]
        rcases stR_8 (t := t) (σ := σ) (i := q) with k | k
        · rw [k]
          exact ⟨h1, rfl⟩
        · omega
      · rw [row q e]
        exact ⟨h1, rfl⟩
def walkF (m : Nat) (σ : IM) : IM := each σ 0 m (walkR σ)
def fordF (t : Int) (m : Nat) (σ : IM) : IM := each σ 0 m (fun p => fordR t (σ (34 + p)))
def minF (t : Int) (m : Nat) (σ : IM) : IM := stF t m 0 (fordF t m (offF t m (walkF m (nightF t σ))))
theorem walkF_row {m p : Nat} {σ : IM} (hp : p < m) : walkF m σ (34 + p) = wlkR (σ 30 3) (σ (34 + p)) := funext fun b => by
  unfold walkF
  rw [each_in (by omega) hp, walkR_r]
theorem walkF_ne {m a b : Nat} {σ : IM} (h : ¬ (34 ≤ a ∧ a < 34 + m)) : walkF m σ a b = σ a b := each_ne (by omega)
theorem fordF_row {t : Int} {m p : Nat} {σ : IM} (hp : p < m) : fordF t m σ (34 + p) = fordR t (σ (34 + p)) := funext fun b => by
  unfold fordF
  rw [each_in (by omega) hp]
theorem fordF_ne {t : Int} {m a b : Nat} {σ : IM} (h : ¬ (34 ≤ a ∧ a < 34 + m)) : fordF t m σ a b = σ a b := each_ne (by omega)
theorem offF_row {t : Int} {m p : Nat} {σ : IM} (hp : p < m) : offF t m σ (34 + p) = offR t (hv m σ p) (σ (34 + p)) := funext fun b => by
  unfold offF
  rw [iw_ne (by omega), iw_ne (by omega), iw_ne (by omega), iw_ne (by omega), each_in (by omega) hp]
theorem offF_ne {t : Int} {m a b : Nat} {σ : IM} (h : ¬ (34 ≤ a ∧ a < 34 + m)) (h2 : ¬ (a = 33 ∧ b < 2)) (h3 : ¬ (a = 30 ∧ (b = 3 ∨ b = 5))) : offF t m σ a b = σ a b := by
  unfold offF
  rw [iw_ne (by omega), iw_ne (by omega), iw_ne (by omega), iw_ne (by omega), each_ne (by omega)]
theorem offF_3 {t : Int} {m : Nat} {σ : IM} : offF t m σ 30 3 = (if σ 30 3 + σ 32 0 * (nF m t 0 σ + nF m t 1 σ) < 400 then σ 30 3 + σ 32 0 * (nF m t 0 σ + nF m t 1 σ) else 400) := by
  unfold offF
  rw [iw_eq rfl rfl]
theorem offF_5 {t : Int} {m : Nat} {σ : IM} : offF t m σ 30 5 = σ 30 5 + (nF m t 0 σ + nF m t 1 σ) := by
  unfold offF
  rw [iw_ne (by omega), iw_eq rfl rfl]
theorem offF_33 {t : Int} {m b : Nat} {σ : IM} (hb : b < 2) : offF t m σ 33 b = lcF m t b σ := by
  unfold offF
  rw [iw_ne (by omega), iw_ne (by omega)]
  by_cases c : b = 1
  · subst c
    rw [iw_eq rfl rfl]
  · have c : b = 0 := by omega
    subst c
    rw [iw_ne (by omega), iw_eq rfl rfl]
theorem minX {m : Nat} {t : Int} {σ : IM} (ht : 0 ≤ t ∧ t ≤ 999) (h : XI σ m t) : (fX0_haveNight (mI t) (enc σ) = some (mI 0, enc (nightF t σ)) ∧ fX0_walk (enc (nightF t σ)) = some (mI 0, enc (walkF m (nightF t σ))) ∧ fX0_stepOff (mI t) (enc (walkF m (nightF t σ))) = some (mI 0, enc (offF t m (walkF m (nightF t σ)))) ∧ fX0_comeByFord (mI t) (enc (offF t m (walkF m (nightF t σ)))) = some (mI 0, enc (fordF t m (offF t m (walkF m (nightF t σ))))) ∧ fX0_start (mI t) (enc (fordF t m (offF t m (walkF m (nightF t σ))))) = some (mI 0, enc (minF t m σ))) ∧ XI (minF t m σ) m (t + 1) ∧ HI (minF t m σ) m := by
  obtain ⟨⟨⟨g1, hm⟩, g3, g4, g2, g5, gL, gC⟩, hR⟩ := h
  unfold minF
  have l0 := gL 0 (by omega)
  have l3 := gL 3 (by omega)
  have l5 := gL 5 (by omega)
  -- the night
  have N3 := nightF_rng (t := t) g3 l3.1
  have Nn : ∀ a b, ¬ (a = 30 ∧ b = 3) → nightF t σ a b = σ a b := fun a b => nightF_ne
  have Nr : ∀ p, nightF t σ (34 + p) = σ (34 + p) := fun p => funext fun b => Nn _ _ (by omega)
  have E1 := nightX (σ := σ) (t := t) (by omega) g3 (by omega)
  generalize nightF t σ = σ1 at *
  -- the walk
  have E2 : fX0_walk (enc σ1) = some (mI 0, enc (walkF m σ1)) := walk_s hm (by rw [Nn _ _ (by omega)]; exact g1) N3 (fun p hp => XD.WB (by rw [Nr p]; exact (hR p hp).2) (by omega))
  have Wn : ∀ a b, ¬ (34 ≤ a ∧ a < 34 + m) → walkF m σ1 a b = σ1 a b := fun a b => walkF_ne
  have Wr : ∀ p, p < m → XT (walkF m σ1 (34 + p)) ∧ XD (walkF m σ1 (34 + p)) t t t := fun p hp => by
    rw [walkF_row hp, Nr p]
    refine ⟨(hR p hp).1.cong (fun b hb => ?_), (hR p hp).2.walk N3.2⟩
    unfold wlkR
    split
    · rw [if_neg (by omega), if_neg (by omega)]
    · rfl
  have WG : XG (walkF m σ1) m t := by
    refine ⟨⟨?_, hm⟩, ?_, ?_, ?_, ?_, fun j hj => ?_, fun b hb => ?_⟩
    · rw [Wn _ _ (by omega), Nn _ _ (by omega)]; exact g1
    · rw [Wn _ _ (by omega)]; exact N3
    · rw [Wn _ _ (by omega), Nn _ _ (by omega)]; exact g4
    · rw [Wn _ _ (by omega), Nn _ _ (by omega)]; exact g2
    · rw [Wn _ _ (by omega), Nn _ _ (by omega)]; exact g5
    · rw [Wn _ _ (by omega), Nn _ _ (by omega)]; exact gL j hj
    · rw [Wn _ _ (by omega), Nn _ _ (by omega)]; exact gC b hb
  generalize walkF m σ1 = σ2 at *
  -- the step off
  have E3 := offX (t := t) hm ht (show t ≤ 1000 by omega) (show t < 1000 by omega) (show t ≤ 1000 by omega) WG Wr
  obtain ⟨⟨w1, -⟩, w3, w4, w2, w5, wL, wC⟩ := WG
  have m1 := nF_rng (m := m) (b := 0) (t := t) (σ := σ2) hm
  have m2 := nF_rng (m := m) (b := 1) (t := t) (σ := σ2) hm
  have m3 : 0 ≤ σ2 32 0 * (nF m t 0 σ2 + nF m t 1 σ2) := Int.mul_nonneg (wL 0 (by omega)).1 (by omega)
  have Or : ∀ p, p < m → XT (offF t m σ2 (34 + p)) ∧ XD (offF t m σ2 (34 + p)) t (t + 1) t := fun p hp => by
    rw [offF_row hp]
    exact ⟨(Wr p hp).1.cong (fun b hb => offR_lo hb), (Wr p hp).2.off (Wr p hp).1 (by omega)⟩
  have On : ∀ a b, ¬ (34 ≤ a ∧ a < 34 + m) → ¬ (a = 33 ∧ b < 2) → ¬ (a = 30 ∧ (b = 3 ∨ b = 5)) → offF t m σ2 a b = σ2 a b := fun a b => offF_ne
  have O3 : 1 ≤ offF t m σ2 30 3 ∧ offF t m σ2 30 3 ≤ 400 := by
    rw [offF_3]
    split <;> omega
  have O5 : 0 ≤ offF t m σ2 30 5 ∧ offF t m σ2 30 5 ≤ 40 * (t + 1) := by
    rw [offF_5]
    omega
  have O33 : ∀ b, b < 2 → -1000 ≤ offF t m σ2 33 b ∧ offF t m σ2 33 b ≤ 1000 := fun b hb => by
    rw [offF_33 hb]
    exact lcF_rng (by omega) (wC b hb)
  have OH : HI (offF t m σ2) m := fun p hp h8 => by
    rw [offF_row hp] at h8
    have c8 : σ2 (34 + p) 8 = 2 := by
      by_cases c : σ2 (34 + p) 8 = 2
      · exact c
      · rw [offR_no c] at h8
        exact absurd h8 c
    have ch : hv m σ2 p = 1 := by
      rcases hv_01 m σ2 p with c | c
      · have e : offR t (hv m σ2 p) (σ2 (34 + p)) 8 = comeR t (σ2 (34 + p)) 8 := by
          unfold offR
          rw [if_pos c8, if_neg (by omega)]
        rw [e] at h8
        have := comeR_8 t (σ2 (34 + p))
        omega
      · exact c
    have same : ∀ b, b ≠ 16 → offF t m σ2 (34 + p) b = σ2 (34 + p) b := fun b hb => by
      rw [offF_row hp, ch]
      unfold offR
      rw [if_pos c8, if_pos rfl, if_neg hb]
    refine hv_mono (same _ (by omega)) (same _ (by omega)) (fun q hq h1 => ?_) ch
    rw [offF_row hq, offR_no (by omega)]
    exact ⟨h1, rfl⟩
  generalize offF t m σ2 = σ3 at *
  -- the ford
  have s3 : σ3 30 6 = (m : Int) := by rw [On _ _ (by omega) (by omega) (by omega)]; exact w1
  have E4 : fX0_comeByFord (mI t) (enc σ3) = some (mI 0, enc (fordF t m σ3)) := by
    unfold fX0_comeByFord
    generalize hfu : mm_fu = NF; have hNF : 4096 ≤ NF := by rw [← hfu]; exact Nat.le_refl _
    simp (implicitDefEqProofs := false) (maxSteps := 1000000) (disch := omega) only [↓mm_lt_s, ↓cl_in, ↓cl_wi, ↓cl_has, ↓cl_isP, mL_le, lit_n, litL_n, mL_mI, mL_neg, mm_cl_s, mI_lt, mI_le, mI_eq, enc_at, enc_wr, enc_cp, mI_neg, mI_add, mI_sub, mI_mul, mI_ix, mm_ck_ok, mm_nz_ok, mm_bo_c, mm_bo_m0, mm_bo_m1, b01, Int.toNat_natCast, Int.reduceToNat, Int.reduceNeg, Int.reduceSub, Int.reduceAdd, Int.reduceMul, Int.reduceLT, Int.reduceLE, Int.reduceEq, ↓reduceIte, not_true, not_false_eq_true, not_true_eq_false, and_self, true_and, and_true, false_and, and_false, Decidable.not_not, stv1, stv2, stv3, stv4]
    have E := fordX_L (K := fun m2 => some (mI 0, m2)) (z := fun _ _ => none) (t := t) hm (by omega) m 0 NF σ3 (by omega) (by omega) s3 (fun p _ hp => (Or p hp).2.RB (Or p hp).1 (by omega) (by omega))
    rw [cast0] at E
    exact E
  have Fr : ∀ p, p < m → XT (fordF t m σ3 (34 + p)) ∧ XD (fordF t m σ3 (34 + p)) (t + 1) (t + 1) t := fun p hp => by
    rw [fordF_row hp]
    exact ⟨(Or p hp).1.cong (fun b hb => fordR_lo hb), (Or p hp).2.ford (Or p hp).1 (by omega)⟩
  have Fn : ∀ a b, ¬ (34 ≤ a ∧ a < 34 + m) → fordF t m σ3 a b = σ3 a b := fun a b => fordF_ne
  have FH : HI (fordF t m σ3) m := fun p hp h8 => by
    have nf : ∀ q, q < m → σ3 (34 + q) 8 ≠ 3 → fordF t m σ3 (34 + q) = σ3 (34 + q) := fun q hq hn => by
      rw [fordF_row hq]
      funext b
      unfold fordR
      rw [if_neg (fun x => hn x.1)]
    have h83 : σ3 (34 + p) 8 ≠ 3 := fun e => by
      rw [fordF_row hp] at h8
      unfold fordR at h8
      split at h8
      · have := comeR_8 t (fun b => if b = 15 then σ3 (34 + p) 15 + 1 else σ3 (34 + p) b)
        omega
      · omega
    rw [nf p hp h83] at h8
    refine hv_mono (by rw [nf p hp h83]) (by rw [nf p hp h83]) (fun q hq h1 => ?_) (OH p hp h8)
    rw [nf q hq (by omega)]
    exact ⟨h1, rfl⟩
  generalize fordF t m σ3 = σ4 at *
  -- the starts
  have k5 : σ4 32 5 = σ 32 5 := by rw [Fn _ _ (by omega), On _ _ (by omega) (by omega) (by omega), Wn _ _ (by omega), Nn _ _ (by omega)]
  have k30 : ∀ b, b ≠ 3 → b ≠ 5 → σ4 30 b = σ 30 b := fun b h3 h5 => by rw [Fn _ _ (by omega), On _ _ (by omega) (by omega) (by omega), Wn _ _ (by omega), Nn _ _ (by omega)]
  have E5 : fX0_start (mI t) (enc σ4) = some (mI 0, enc (stF t m 0 σ4)) := by
    unfold fX0_start
    generalize hfu : mm_fu = NF; have hNF : 4096 ≤ NF := by rw [← hfu]; exact Nat.le_refl _
    simp (implicitDefEqProofs := false) (maxSteps := 1000000) (disch := omega) only [↓mm_lt_s, ↓cl_in, ↓cl_wi, ↓cl_has, ↓cl_isP, mL_le, lit_n, litL_n, mL_mI, mL_neg, mm_cl_s, mI_lt, mI_le, mI_eq, enc_at, enc_wr, enc_cp, mI_neg, mI_add, mI_sub, mI_mul, mI_ix, mm_ck_ok, mm_nz_ok, mm_bo_c, mm_bo_m0, mm_bo_m1, b01, Int.toNat_natCast, Int.reduceToNat, Int.reduceNeg, Int.reduceSub, Int.reduceAdd, Int.reduceMul, Int.reduceLT, Int.reduceLE, Int.reduceEq, ↓reduceIte, not_true, not_false_eq_true, not_true_eq_false, and_self, true_and, and_true, false_and, and_false, Decidable.not_not, stv1, stv2, stv3, stv4]
    have E := startX_L (K := fun m2 => some (mI 0, m2)) (z := fun _ _ => none) (t := t) hm (by omega) m 0 NF σ4 (by omega) (by omega) (by rw [k30 _ (by omega) (by omega)]; exact g1) (by rw [k30 _ (by omega) (by omega)]; exact g2) (by rw [Fn _ _ (by omega)]; exact O3) (by rw [k30 _ (by omega) (by omega)]; exact g4) (by rw [k5]; omega) (fun p _ hp => (Fr p hp).2.RB (Fr p hp).1 (by omega) (by omega))
    rw [cast0] at E
    exact E
  obtain ⟨S4, Sr, SH⟩ := stF_inv (m := m) (t := t) (u := t + 1) (v := t + 1) (w := t) (by omega) m 0 σ4 (by omega) (by rw [k30 _ (by omega) (by omega)]; exact g4) (by rw [k5]; omega) (fun p hp => by rw [if_neg (by omega)]; exact Fr p hp) FH
  have Sn : ∀ a b, ¬ (34 ≤ a ∧ a < 34 + m) → ¬ (a = 30 ∧ b = 4) → stF t m 0 σ4 a b = σ4 a b := fun a b h1 h2 => stF_ne m 0 σ4 a b (by omega) h2
  refine ⟨⟨E1, E2, E3, E4, E5⟩, ⟨⟨⟨?_, hm⟩, ?_, S4, ?_, ?_, fun j hj => ?_, fun b hb => ?_⟩, Sr⟩, SH⟩
  · rw [Sn _ _ (by omega) (by omega), k30 _ (by omega) (by omega)]; exact g1
  · rw [Sn _ _ (by omega) (by omega), Fn _ _ (by omega)]; exact O3
  · rw [Sn _ _ (by omega) (by omega), k30 _ (by omega) (by omega)]; exact g2
  · rw [Sn _ _ (by omega) (by omega), Fn _ _ (by omega)]; exact O5
  · rw [Sn _ _ (by omega) (by omega), Fn _ _ (by omega), On _ _ (by omega) (by omega) (by omega), Wn _ _ (by omega), Nn _ _ (by omega)]; exact gL j hj
  · rw [Sn _ _ (by omega) (by omega), Fn _ _ (by omega)]; exact O33 b hb
