/-! days: the class's run, as if it went minute by minute -/
theorem onR_12 {r : Int} {x : Nat → Int} : onR r x 12 = 0 := rfl
theorem stF_PI {m : Nat} {t : Int} : ∀ (d i : Nat) (σ : IM), 1 ≤ σ 30 3 → PI σ m → PI (stF t d i σ) m
  | 0, _, _, _, h => h
  | d + 1, i, σ, h3, h => by
    have e3 : stS t σ i 30 3 = σ 30 3 := stS_ne (by omega) (by omega)
    refine stF_PI d (i + 1) (stS t σ i) (by rw [e3]; exact h3) (fun p hp h8 => ?_)
    rw [e3]
    by_cases e : p = i
    · subst e
      rw [stS_i] at h8 ⊢
      unfold stR at h8 ⊢
      by_cases c : σ (34 + p) 8 = 0 ∧ σ (34 + p) 11 = t
      · rw [if_pos c] at h8 ⊢
        by_cases d : byFd (σ 30 3) (σ (34 + p) 2) (σ 32 5)
        · rw [if_pos d] at h8
          exact absurd (show (3 : Int) = 1 from h8) (by decide)
        · rw [if_neg d, onR_12]
          omega
      · rw [if_neg c] at h8 ⊢
        exact h p hp h8
    · rw [show stS t σ i (34 + p) = σ (34 + p) from funext fun b => stS_ne (by omega) (by omega)] at h8 ⊢
      exact h p hp h8
theorem minF_PI {m : Nat} {t : Int} {σ : IM} (ht : 0 ≤ t ∧ t ≤ 999) (h : XI σ m t) : PI (minF t m σ) m := by
  obtain ⟨⟨⟨g1, hm⟩, g3, g4, g2, g5, gL, gC⟩, hR⟩ := h
  have l0 := gL 0 (by omega)
  have l3 := gL 3 (by omega)
  have N3 := nightF_rng (t := t) g3 l3.1
  have N32 : nightF t σ 32 0 = σ 32 0 := nightF_ne (by omega)
  unfold minF
  generalize nightF t σ = σ1 at *
  have W3 : walkF m σ1 30 3 = σ1 30 3 := walkF_ne (by omega)
  have W32 : walkF m σ1 32 0 = σ1 32 0 := walkF_ne (by omega)
  have WP : PI (walkF m σ1) m := fun p hp h8 => by
    rw [W3]
    rw [walkF_row hp] at h8 ⊢
    unfold wlkR at h8 ⊢
    by_cases c : σ1 (34 + p) 8 = 1
    · rw [if_pos c] at h8 ⊢
      rw [if_neg (by omega), if_pos rfl] at h8
      rw [if_pos rfl]
      by_cases d : σ1 (34 + p) 12 + σ1 (34 + p) 13 < σ1 30 3
      · exact d
      · rw [if_neg d] at h8
        exact absurd h8 (by decide)
    · rw [if_neg c] at h8
      exact absurd h8 c
  generalize walkF m σ1 = σ2 at *
  have m1 := nF_rng (m := m) (b := 0) (t := t) (σ := σ2) hm
  have m2 := nF_rng (m := m) (b := 1) (t := t) (σ := σ2) hm
  have m3 : 0 ≤ σ2 32 0 * (nF m t 0 σ2 + nF m t 1 σ2) := Int.mul_nonneg (by omega) (by omega)
  have O3 : σ2 30 3 ≤ offF t m σ2 30 3 := by
    rw [offF_3]
    split <;> omega
  have OP : PI (offF t m σ2) m := fun p hp h8 => by
    have n2 : ¬ σ2 (34 + p) 8 = 2 := fun e => by
      rw [offF_row hp] at h8
      have := offR_8 (t := t) (h := hv m σ2 p) e
      omega
    rw [offF_row hp, offR_no n2] at h8 ⊢
    have := WP p hp h8
    omega
  generalize offF t m σ2 = σ3 at *
  have F3 : fordF t m σ3 30 3 = σ3 30 3 := fordF_ne (by omega)
  refine stF_PI m 0 _ (by rw [F3]; omega) (fun p hp h8 => ?_)
  rw [F3]
  rw [fordF_row hp] at h8 ⊢
  unfold fordR at h8 ⊢
  by_cases c : σ3 (34 + p) 8 = 3 ∧ σ3 (34 + p) 11 = t
  · rw [if_pos c] at h8
    have := comeR_8 t (fun b => if b = 15 then σ3 (34 + p) 15 + 1 else σ3 (34 + p) b)
    omega
  · rw [if_neg c] at h8 ⊢
    exact OP p hp h8
theorem stF_no {t : Int} : ∀ (d i : Nat) (σ : IM), (∀ p, i ≤ p → p < i + d → ¬ (σ (34 + p) 8 = 0 ∧ σ (34 + p) 11 = t)) → stF t d i σ = σ
  | 0, _, _, _ => rfl
  | d + 1, i, σ, h => by
    unfold stF
    rw [stS_no (h i (by omega) (by omega))]
    exact stF_no d (i + 1) σ (fun p h1 h2 => h p (by omega) (by omega))
theorem mskF_0 {m : Nat} {B : Int} {σ : IM} : ∀ d i c, (∀ p, i ≤ p → p < i + d → ¬ stp m B σ p) → mskF m B σ d i c = c
  | 0, _, _, _ => rfl
  | d + 1, i, c, h => by
    unfold mskF
    rw [if_neg (fun x => h i (by omega) (by omega) x.1)]
    exact mskF_0 d (i + 1) c (fun p h1 h2 => h p (by omega) (by omega))
theorem spF_0 {m : Nat} {B : Int} {σ : IM} : ∀ d i c, (∀ p, i ≤ p → p < i + d → ¬ stp m B σ p) → spF m B σ d i c = c
  | 0, _, _, _ => rfl
  | d + 1, i, c, h => by
    unfold spF
    rw [if_neg (fun x => h i (by omega) (by omega) x.1)]
    exact spF_0 d (i + 1) c (fun p h1 h2 => h p (by omega) (by omega))
theorem nF_0 {m b : Nat} {t : Int} {σ : IM} (h : ∀ p, p < m → ¬ stp m b σ p) : nF m t b σ = 0 ∧ lcF m t b σ = σ 33 b := by
  have a := mskF_0 (m := m) (B := b) (σ := σ) m 0 0 (fun p _ hp => h p (by omega))
  have c := spF_0 (m := m) (B := b) (σ := σ) m 0 0 (fun p _ hp => h p (by omega))
  have z : ((popc 0 : Nat) : Int) = 0 := by decide
  unfold nF lcF
  rw [a, c, z]
  refine ⟨?_, if_neg (fun x => x.1 (Or.inl rfl))⟩
  unfold cntV
  rw [if_pos (Or.inl rfl)]
  rfl
/-- a row that walks on for q minutes -/
def pasR (q : Int) (x : Nat → Int) (b : Nat) : Int := if x 8 = 1 then (if b = 12 then x 12 + x 13 * q else x b) else if x 8 = 2 then (if b = 16 then x 16 + q else x b) else x b
theorem passR_r (q : Int) (σ : IM) (p : Nat) : passR q σ p = pasR q (σ (34 + p)) := rfl
theorem pasR_ne {q : Int} {x : Nat → Int} {b : Nat} (h1 : b ≠ 12) (h2 : b ≠ 16) : pasR q x b = x b := by
  unfold pasR
  rw [if_neg h1, if_neg h2]
  split
  · rfl
  · split <;> rfl
def passF (q : Int) (m : Nat) (σ : IM) : IM := each σ 0 m (passR q σ)
theorem passF_row {q : Int} {m p : Nat} {σ : IM} (hp : p < m) : passF q m σ (34 + p) = pasR q (σ (34 + p)) := funext fun b => by
  unfold passF
  rw [each_in (by omega) hp, passR_r]
theorem passF_ne {q : Int} {m a b : Nat} {σ : IM} (h : ¬ (34 ≤ a ∧ a < 34 + m)) : passF q m σ a b = σ a b := each_ne (by omega)
theorem IMext {σ σ1 : IM} (m : Nat) (h1 : ∀ p, p < m → σ (34 + p) = σ1 (34 + p)) (h2 : ∀ a b, ¬ (34 ≤ a ∧ a < 34 + m) → σ a b = σ1 a b) : σ = σ1 := by
  funext a b
  by_cases c : 34 ≤ a ∧ a < 34 + m
  · obtain ⟨p, rfl⟩ : ∃ p, a = 34 + p := ⟨a - 34, by omega⟩
    rw [h1 p (by omega)]
  · exact h2 a b c
theorem passF_0 {m : Nat} {σ : IM} : passF 0 m σ = σ := by
  refine IMext m (fun p hp => ?_) (fun a b h => passF_ne h)
  rw [passF_row hp]
  funext b
  unfold pasR
  split
  · split
    · rename_i e; rw [e]; omega
    · rfl
  · split
    · split
      · rename_i e; rw [e]; omega
      · rfl
    · rfl
/-- a quiet minute is a walk on -/
theorem quiet_min {m : Nat} {t j : Int} {σ : IM} (ht : 0 ≤ t ∧ t ≤ 999) (hj : 0 ≤ j) (hG : XG σ m (t + 1)) (hR : ∀ p, p < m → XT (σ (34 + p)) ∧ XD (σ (34 + p)) (t + 1) (t + 1) (t + 1)) (hH : HI σ m) (hI : PI σ m) (hN : t + (j + 1) < (t / 240 + 1) * 240) (hq : ∀ p, p < m → t + (j + 1) < nxt t (σ 30 3) (σ (34 + p))) : minF (t + (j + 1)) m (passF j m σ) = passF (j + 1) m σ := by
  obtain ⟨⟨g1, hm⟩, g3, g4, g2, g5, gL, gC⟩ := hG
  have e1 : nightF (t + (j + 1)) (passF j m σ) = passF j m σ := by
    unfold nightF
    rw [if_neg (by omega)]
  have row : ∀ p, p < m → wlkR (passF j m σ 30 3) (passF j m σ (34 + p)) = (fun b => if σ (34 + p) 8 = 1 then (if b = 12 then σ (34 + p) 12 + σ (34 + p) 13 * (j + 1) else σ (34 + p) b) else pasR j (σ (34 + p)) b) := fun p hp => by
    rw [passF_row hp, passF_ne (by omega)]
    have e8 : pasR j (σ (34 + p)) 8 = σ (34 + p) 8 := pasR_ne (by omega) (by omega)
    funext b
    unfold wlkR
    rw [e8]
    by_cases c : σ (34 + p) 8 = 1
    · rw [if_pos c, if_pos c]
      have e12 : pasR j (σ (34 + p)) 12 = σ (34 + p) 12 + σ (34 + p) 13 * j := by unfold pasR; rw [if_pos c, if_pos rfl]
      have e13 : pasR j (σ (34 + p)) 13 = σ (34 + p) 13 := pasR_ne (by omega) (by omega)
      have em : σ (34 + p) 13 * (j + 1) = σ (34 + p) 13 * j + σ (34 + p) 13 := by rw [Int.mul_add, Int.mul_one]
      have a13 := (hR p hp).2.2.2.2.2.2.1
      have lt : σ (34 + p) 12 + σ (34 + p) 13 * (j + 1) < σ 30 3 := by
        have k := hq p hp
        unfold nxt at k
        rw [if_pos c] at k
        have k2 : j + 2 ≤ (σ 30 3 - σ (34 + p) 12 + σ (34 + p) 13 - 1) / σ (34 + p) 13 := by
          revert k
          split <;> omega
        rw [Int.le_ediv_iff_mul_le (by omega)] at k2
        have k3 : (j + 2) * σ (34 + p) 13 = σ (34 + p) 13 * (j + 1) + σ (34 + p) 13 := by
          rw [Int.mul_comm, show j + 2 = (j + 1) + 1 by omega, Int.mul_add (σ (34 + p) 13) (j + 1) 1, Int.mul_one]
        omega
      rw [e12, e13]
      by_cases b12 : b = 12
      · rw [if_pos b12, if_pos b12, em]
        omega
      · rw [if_neg b12, if_neg b12]
        by_cases b8 : b = 8
        · rw [if_pos b8, if_pos (by omega), b8, c]
        · rw [if_neg b8]
          unfold pasR
          rw [if_pos c, if_neg b12]
    · rw [if_neg c, if_neg c]
  have w8 : ∀ p, p < m → walkF m (passF j m σ) (34 + p) 8 = σ (34 + p) 8 ∧ walkF m (passF j m σ) (34 + p) 9 = σ (34 + p) 9 ∧ walkF m (passF j m σ) (34 + p) 7 = σ (34 + p) 7 := fun p hp => by
    rw [walkF_row hp, row p hp]
    dsimp only
    by_cases c : σ (34 + p) 8 = 1
    · rw [if_pos c, if_pos c, if_pos c, if_neg (by decide), if_neg (by decide), if_neg (by decide)]
      exact ⟨rfl, rfl, rfl⟩
    · rw [if_neg c, if_neg c, if_neg c, pasR_ne (by decide) (by decide), pasR_ne (by decide) (by decide), pasR_ne (by decide) (by decide)]
      exact ⟨rfl, rfl, rfl⟩
  have wh : ∀ p, p < m → walkF m (passF j m σ) (34 + p) 8 = 2 → hv m (walkF m (passF j m σ)) p = 1 := fun p hp h8 => by
    rw [(w8 p hp).1] at h8
    refine hv_mono (w8 p hp).2.2 (w8 p hp).2.1 (fun q hq h1 => ?_) (hH p hp h8)
    rw [(w8 q hq).1]
    exact ⟨h1, (w8 q hq).2.1⟩
  have ns : ∀ (b : Nat) p, p < m → ¬ stp m b (walkF m (passF j m σ)) p := fun b p hp x => by
    have := wh p hp x.1.1
    have := x.2
    omega
  have n0 := nF_0 (b := 0) (t := t + (j + 1)) (ns 0)
  have n1 := nF_0 (b := 1) (t := t + (j + 1)) (ns 1)
  have wn : ∀ a b, ¬ (34 ≤ a ∧ a < 34 + m) → walkF m (passF j m σ) a b = σ a b := fun a b h => by rw [walkF_ne h, passF_ne h]
  have e3 : offF (t + (j + 1)) m (walkF m (passF j m σ)) = passF (j + 1) m σ := by
    refine IMext m (fun p hp => ?_) (fun a b h => ?_)
    · rw [offF_row hp, passF_row hp]
      funext b
      unfold offR
      by_cases c2 : walkF m (passF j m σ) (34 + p) 8 = 2
      · rw [if_pos c2, if_pos (wh p hp c2), walkF_row hp, row p hp]
        rw [(w8 p hp).1] at c2
        dsimp only
        have c1 : ¬ σ (34 + p) 8 = 1 := by omega
        rw [if_neg c1, if_neg c1]
        unfold pasR
        rw [if_neg c1, if_neg c1, if_neg c1, if_pos c2, if_pos c2, if_pos c2, if_pos rfl]
        by_cases b16 : b = 16
        · rw [if_pos b16, if_pos b16]
          omega
        · rw [if_neg b16, if_neg b16, if_neg b16]
      · rw [if_neg c2, walkF_row hp, row p hp]
        rw [(w8 p hp).1] at c2
        dsimp only
        by_cases c1 : σ (34 + p) 8 = 1
        · rw [if_pos c1]
          unfold pasR
          rw [if_pos c1]
        · rw [if_neg c1]
          unfold pasR
          rw [if_neg c1, if_neg c2, if_neg c1, if_neg c2]
    · rw [passF_ne h]
      by_cases k3 : a = 30 ∧ b = 3
      · rw [k3.1, k3.2, offF_3, n0.1, n1.1, wn _ _ (by omega)]
        have z : walkF m (passF j m σ) 32 0 * (0 + 0) = 0 := by rw [show (0 : Int) + 0 = 0 from rfl, Int.mul_zero]
        rw [z]
        split <;> omega
      · by_cases k5 : a = 30 ∧ b = 5
        · rw [k5.1, k5.2, offF_5, n0.1, n1.1, wn _ _ (by omega)]
          omega
        · by_cases k33 : a = 33 ∧ b < 2
          · rw [k33.1, offF_33 k33.2]
            by_cases kb : b = 0
            · rw [kb, n0.2, wn _ _ (by omega)]
            · have kb : b = 1 := by omega
              rw [kb, n1.2, wn _ _ (by omega)]
          · rw [offF_ne h k33 (by omega), wn _ _ h]
  have p8 : ∀ p, p < m → passF (j + 1) m σ (34 + p) 8 = σ (34 + p) 8 ∧ passF (j + 1) m σ (34 + p) 11 = σ (34 + p) 11 := fun p hp => by
    rw [passF_row hp]
    exact ⟨pasR_ne (by decide) (by decide), pasR_ne (by decide) (by decide)⟩
  have nd : ∀ p, p < m → σ (34 + p) 8 = 0 ∨ σ (34 + p) 8 = 3 → σ (34 + p) 11 ≠ t + (j + 1) := fun p hp h => by
    have k := hq p hp
    unfold nxt at k
    rw [if_neg (by omega), if_pos h] at k
    revert k
    split <;> omega
  have e4 : fordF (t + (j + 1)) m (passF (j + 1) m σ) = passF (j + 1) m σ := by
    refine IMext m (fun p hp => ?_) (fun a b h => fordF_ne h)
    rw [fordF_row hp]
    funext b
    unfold fordR
    rw [if_neg (fun x => ?_)]
    rw [(p8 p hp).1, (p8 p hp).2] at x
    exact nd p hp (Or.inr x.1) x.2
  unfold minF
  rw [e1, e3, e4]
  refine stF_no m 0 _ (fun p _ hp x => ?_)
  rw [(p8 p (by omega)).1, (p8 p (by omega)).2] at x
  exact nd p (by omega) (Or.inl x.1) x.2
