/-! days: what was told, in both -/
def TPn (σ τ : IM) (p : Nat) : Prop := WS (σ (34 + p)) (fun j => τ 1 (7 * p + j)) ∧ (0 ≤ τ 1 (7 * p + 2) ∧ τ 1 (7 * p + 2) ≤ 3) ∧ (1 ≤ τ 1 (7 * p + 3) ∧ τ 1 (7 * p + 3) ≤ 20) ∧ σ (34 + p) 5 = (if τ 1 (7 * p + 2) = 3 then 1 else 0) ∧ σ (34 + p) 6 = (p : Int)
/-- whom one waits for -/
def MA (m : Nat) (h x7 : Int) : Prop := (h < 0 ∧ -10 ≤ h ∧ x7 = 0) ∨ ∃ q : Nat, q < m ∧ h = (q : Int) ∧ x7 = ((2 ^ q : Nat) : Int)
def TL (σ τ : IM) (m : Nat) : Prop := (σ 30 6 = (m : Int) ∧ τ 0 1 = (m : Int) ∧ m ≤ 10) ∧ (σ 30 7 = τ 0 3 ∧ 1 ≤ τ 0 3 ∧ τ 0 3 ≤ 400) ∧ (∀ j, j < 6 → j ≠ 1 → σ 32 j = τ 2 j) ∧ (∀ j, j < 6 → lawLo j ≤ τ 2 j ∧ τ 2 j ≤ lawHi j) ∧ ∀ p, p < m → TPn σ τ p
/-- cells that the reference's day leaves -/
def frT (a b : Nat) : Prop := ¬ (5 ≤ a ∧ a ≤ 18) ∧ ¬ (a = 0 ∧ (23 ≤ b ∧ b ≤ 27))
theorem MA_rng {m : Nat} {h x : Int} (hm : m ≤ 10) (a : MA m h x) : 0 ≤ x ∧ x ≤ 1023 := by
  rcases a with ⟨a1, a2, a3⟩ | ⟨q, a1, a2, a3⟩
  · omega
  · have le : 2 ^ q ≤ 2 ^ 9 := Nat.pow_le_pow_right (by decide) (by omega)
    rw [a3]
    generalize 2 ^ q = k at *
    omega
theorem TL.cong {σ τ σ' τ' : IM} {m : Nat} (h : TL σ τ m) (h1 : ∀ a b, a = 30 ∧ (b = 6 ∨ b = 7) ∨ (a = 32 ∧ b < 6 ∧ b ≠ 1) ∨ ((34 ≤ a ∧ a < 34 + m) ∧ b < 7) → σ' a b = σ a b) (h2 : ∀ a b, frT a b → τ' a b = τ a b) : TL σ' τ' m := by
  obtain ⟨⟨a1, a2, a3⟩, a4, a5, a6, a7⟩ := h
  have f1 : ∀ j, τ' 1 j = τ 1 j := fun j => h2 _ _ ⟨by omega, by omega⟩
  have f2 : ∀ j, τ' 2 j = τ 2 j := fun j => h2 _ _ ⟨by omega, by omega⟩
  refine ⟨⟨?_, ?_, a3⟩, ?_, fun j hj hj1 => ?_, fun j hj => ?_, fun p hp => ?_⟩
  · rw [h1 _ _ (by omega)]; exact a1
  · rw [h2 _ _ ⟨by omega, by omega⟩]; exact a2
  · rw [h1 _ _ (by omega), h2 _ _ ⟨by omega, by omega⟩]; exact a4
  · rw [h1 _ _ (by omega), f2]; exact a5 j hj hj1
  · rw [f2]; exact a6 j hj
  · obtain ⟨b1, b2, b3, b4, b5⟩ := a7 p hp
    unfold TPn
    rw [show (fun j => τ' 1 (7 * p + j)) = (fun j => τ 1 (7 * p + j)) from funext fun j => f1 _, f1, f1, h1 _ 5 (by omega), h1 _ 6 (by omega)]
    exact ⟨b1.cong (fun b hb => h1 _ _ (by omega)), b2, b3, b4, b5⟩
/-- a day of what was told, with changes -/
theorem dayQ {σ τ τ1 : IM} {m : Nat} {last : Int} (h0 : 0 ≤ last) (hl : last ≤ 999) (hT : TL σ τ m) (hr : σ 30 2 = τ1 0 27 ∧ -1 ≤ τ1 0 27 ∧ τ1 0 27 < 1024) (hc : σ 32 1 = τ1 0 26 ∧ 0 ≤ τ1 0 26 ∧ τ1 0 26 ≤ 2) (hM : ∀ p, p < m → MA m (τ1 16 p) (σ (34 + p) 7)) (hτ : ∀ a b, ¬ (a = 0 ∧ (b = 26 ∨ b = 27)) → a ≠ 16 → τ1 a b = beginM m τ a b) : ∃ σ' τ' : IM, fX0_run (mI last) (enc σ) = some (mI 0, enc σ') ∧ fX7_goTo (mI last) (enc τ1) = some (mI 0, enc τ') ∧ XI σ' m (last + 1) ∧ DG σ' τ' m ∧ DW σ' τ' m (fun _ => last + 1) (last + 1) ∧ (∀ a b, frX m a b → σ' a b = σ a b) ∧ (∀ a b, frT a b → τ' a b = τ a b) := by
  obtain ⟨⟨a1, a2, a3⟩, a4, a5, a6, a7⟩ := id hT
  obtain ⟨⟨b1, b2, b3, b4, b5⟩, b6, b7⟩ := beginM_g (m := m) (τ := τ)
  obtain ⟨d1, d2, d3, d4, d5⟩ := beginF_g (m := m) (σ := σ)
  have lw : ∀ j, j < 6 → 0 ≤ τ 2 j ∧ τ 2 j ≤ 200 := fun j hj => by
    have := a6 j hj
    have := lawB j
    omega
  have t2 : ∀ j, τ1 2 j = τ 2 j := fun j => by rw [hτ _ _ (by omega) (by omega), beginM_ne (by omega) (by omega) (by omega)]
  have t1 : ∀ j, τ1 1 j = τ 1 j := fun j => by rw [hτ _ _ (by omega) (by omega), beginM_ne (by omega) (by omega) (by omega)]
  have LDh : LD σ m := by
    refine ⟨⟨a1, a3⟩, by omega, by omega, fun j hj => ?_, fun p hp => ?_⟩
    · by_cases c : j = 1
      · rw [c]; omega
      · rw [a5 j hj c]; exact lw j hj
    · obtain ⟨⟨s0, s1, s2, s3, s4⟩, e2, e3, e4, e5⟩ := a7 p hp
      have m7 := MA_rng a3 (hM p hp)
      dsimp only at s0 s1 s2 s3 s4
      have e5' : 0 ≤ σ (34 + p) 5 ∧ σ (34 + p) 5 ≤ 1 := by
        rw [e4]
        split <;> omega
      exact ⟨by omega, by omega, s2.2, by omega, by omega, e5', by omega, m7⟩
  have l4 := lw 4 (by omega)
  have G : DG (beginF m σ) τ1 m := by
    refine ⟨⟨?_, ?_, a3⟩, ?_, ?_, ?_, ?_, fun j hj hj1 => ?_, ?_, fun _ => ?_, fun l hl => ?_⟩
    · rw [beginF_ne (by omega) (by omega) (by omega)]; exact a1
    · rw [hτ _ _ (by omega) (by omega), beginM_ne (by omega) (by omega) (by omega)]; exact a2
    · rw [d1, hτ _ _ (by omega) (by omega), b1]; exact a4
    · rw [d2, hτ _ _ (by omega) (by omega), b2, a5 4 (by omega) (by omega)]; omega
    · rw [beginF_ne (by omega) (by omega) (by omega)]; exact hr
    · rw [d3, hτ _ _ (by omega) (by omega), b3]
    · rw [beginF_ne (by omega) (by omega) (by omega), t2, a5 j hj hj1]
      exact ⟨rfl, lw j hj⟩
    · rw [beginF_ne (by omega) (by omega) (by omega)]; exact hc
    · rw [d4, d5, hτ _ _ (by omega) (by omega), hτ _ _ (by omega) (by omega), b6, b7]
      exact ⟨rfl, rfl⟩
    · rw [hτ _ _ (by omega) (by omega)]
      by_cases c : l = 0
      · rw [c, b6]; omega
      · rw [show l = 1 by omega, b7]; omega
  have W : DW (beginF m σ) τ1 m (fun _ => 0) 0 := fun p hp => by
    obtain ⟨e1, e2, e3, e4, e5⟩ := a7 p hp
    obtain ⟨⟨y5, y6, y7, y8, y9, y12, y13, y14, y15⟩, -⟩ := beginM_c (τ := τ) hp
    have q : (fun j => τ1 1 (7 * p + j)) = (fun j => τ 1 (7 * p + j)) := funext fun j => t1 _
    have n := fun a (h : a ≠ 0) (h2 : a ≠ 16) => hτ a p (by omega) h2
    refine ⟨?_, ?_⟩
    · unfold DX
      rw [q, t1, t1, beginF_row hp]
      exact ⟨e1.cong (fun b hb => begR_lo (by omega)), e2, e3, e4, e5, hM p hp⟩
    · rw [q, beginF_row hp]
      refine WD.beg e1 ⟨?_, ?_, ?_, ?_, ?_, ?_, ?_, ?_, ?_⟩
      · rw [n 5 (by omega) (by omega)]; exact y5
      · rw [n 6 (by omega) (by omega)]; exact y6
      · rw [n 7 (by omega) (by omega)]; exact y7
      · rw [n 8 (by omega) (by omega)]; exact y8
      · rw [n 9 (by omega) (by omega)]; exact y9
      · rw [n 12 (by omega) (by omega)]; exact y12
      · rw [n 13 (by omega) (by omega)]; exact y13
      · rw [n 14 (by omega) (by omega)]; exact y14
      · rw [n 15 (by omega) (by omega)]; exact y15
  obtain ⟨σ', τ', c1, c2, c3, c4, c5, c6, c7⟩ := dayR h0 hl LDh G W
  refine ⟨σ', τ', c1, c2, c3, c4, c5, c6, fun a b h => ?_⟩
  obtain ⟨n1, n2⟩ := h
  rw [c7 a b ⟨by omega, by omega, by omega, by omega⟩, hτ a b (by omega) (by omega), beginM_ne (by omega) (by omega) (by omega)]
/-- what is loaded -/
theorem RX.TL {σ τ : IM} {m : Nat} (h : RX σ τ) (hm : τ 0 1 = (m : Int)) : TL (loadF m σ) τ m ∧ ∀ p, p < m → MA m (τ 1 (7 * p + 6)) (loadF m σ (34 + p) 7) := by
  obtain ⟨n1, n2⟩ := h.now
  obtain ⟨g1, g2, g3, g4⟩ := loadF_g (m := m) (σ := σ)
  have hm10 : m ≤ 10 := by omega
  refine ⟨⟨⟨g2, hm, hm10⟩, ?_, fun j hj _ => ?_, fun j hj => (h.law j hj).2, fun p hp => ?_⟩, fun p hp => ?_⟩
  · rw [g3]; exact n1
  · rw [g4 j hj]; exact (h.law j hj).1
  · obtain ⟨f1, f2, f3⟩ := h.folk p (by omega)
    have t0 := f1 0 (by omega)
    have t1 := f1 1 (by omega)
    have t2 := f1 2 (by omega)
    have t3 := f1 3 (by omega)
    have t4 := f1 4 (by omega)
    have t5 := f1 5 (by omega)
    have e : ((tolLo 0 = 0 ∧ tolHi 0 = 499) ∧ (tolLo 1 = 0 ∧ tolHi 1 = 1) ∧ (tolLo 2 = 0 ∧ tolHi 2 = 3)) ∧ (tolLo 3 = 1 ∧ tolHi 3 = 20) ∧ (tolLo 4 = 1 ∧ tolHi 4 = 6) ∧ (tolLo 5 = 0 ∧ tolHi 5 = 60) := ⟨⟨⟨rfl, rfl⟩, ⟨rfl, rfl⟩, rfl, rfl⟩, ⟨rfl, rfl⟩, ⟨rfl, rfl⟩, rfl, rfl⟩
    have pr := pac_rng (kind := σ (4 + p) 2) (pace := σ (4 + p) 3) (by omega) (by omega)
    unfold TPn
    rw [loadF_row hp hm10]
    refine ⟨⟨?_, ?_, ?_, ?_, ?_⟩, by omega, by omega, ?_, rfl⟩
    · show σ (4 + p) 0 = τ 1 (7 * p + 0) ∧ 0 ≤ τ 1 (7 * p + 0) ∧ τ 1 (7 * p + 0) ≤ 499
      omega
    · show σ (4 + p) 1 = τ 1 (7 * p + 1) ∧ 0 ≤ τ 1 (7 * p + 1) ∧ τ 1 (7 * p + 1) ≤ 1
      omega
    · show pac (σ (4 + p) 2) (σ (4 + p) 3) = pac (τ 1 (7 * p + 2)) (τ 1 (7 * p + 3)) ∧ 1 ≤ pac (σ (4 + p) 2) (σ (4 + p) 3) ∧ pac (σ (4 + p) 2) (σ (4 + p) 3) ≤ 40
      rw [t2.1, t3.1] at pr ⊢
      exact ⟨rfl, pr⟩
    · show σ (4 + p) 4 = τ 1 (7 * p + 4) ∧ 1 ≤ τ 1 (7 * p + 4) ∧ τ 1 (7 * p + 4) ≤ 6
      omega
    · show σ (4 + p) 5 = τ 1 (7 * p + 5) ∧ 0 ≤ τ 1 (7 * p + 5) ∧ τ 1 (7 * p + 5) ≤ 60
      omega
    · show (if σ (4 + p) 2 = 3 then (1 : Int) else 0) = _
      rw [t2.1]
  · obtain ⟨f1, f2, f3, f4⟩ := h.folk p (by omega)
    rw [loadF_row hp hm10, f2]
    show MA m _ (if σ (4 + p) 6 = -1 then 0 else ((2 ^ (σ (4 + p) 6).toNat : Nat) : Int))
    by_cases c : σ (4 + p) 6 = -1
    · rw [if_pos c, if_pos (by omega)]
      exact Or.inl ⟨by omega, by omega, rfl⟩
    · rw [if_neg c, if_neg (by omega)]
      exact Or.inr ⟨(σ (4 + p) 6).toNat, by omega, by omega, rfl⟩
theorem RX.day {σ τ σ' τ' : IM} {m : Nat} (h : RX σ τ) (hm : m ≤ 10) (h1 : ∀ a b, a ≠ 30 → a ≠ 32 → a ≠ 33 → ¬ (34 ≤ a ∧ a < 34 + m) → σ' a b = σ a b) (h2 : ∀ a b, frT a b → τ' a b = τ a b) : RX σ' τ' :=
  h.cong (fun k j hk => h1 k j (by unfold keepX at hk; omega) (by unfold keepX at hk; omega) (by unfold keepX at hk; omega) (by unfold keepX at hk; omega)) (fun k j hk => h2 k j ⟨by unfold keepM at hk; omega, by unfold keepM at hk; omega⟩)
/-- the day as it was told -/
theorem dayPf {σ τ : IM} {m : Nat} {last : Int} (h : RX σ τ) (hm : τ 0 1 = (m : Int)) (h0 : 0 ≤ last) (hl : last ≤ 999) : ∃ σ' τ' : IM, fX0_load (enc σ) = some (mI 0, enc (loadF m σ)) ∧ fX0_run (mI last) (enc (loadF m σ)) = some (mI 0, enc σ') ∧ fX7_begin (enc τ) = some (mI 0, enc (beginM m τ)) ∧ fX7_goTo (mI last) (enc (beginM m τ)) = some (mI 0, enc τ') ∧ XI σ' m (last + 1) ∧ DG σ' τ' m ∧ DW σ' τ' m (fun _ => last + 1) (last + 1) ∧ RX σ' τ' ∧ (∀ a b, frT a b → τ' a b = τ a b) := by
  have hm10 : m ≤ 10 := by have := h.now; omega
  obtain ⟨T, M⟩ := h.TL hm
  obtain ⟨g1, g2, g3, g4⟩ := loadF_g (m := m) (σ := σ)
  obtain ⟨⟨b1, b2, b3, b4, b5⟩, b6, b7⟩ := beginM_g (m := m) (τ := τ)
  have l1 := h.law 1 (by omega)
  have e1 : lawLo 1 = 0 ∧ lawHi 1 = 2 := ⟨rfl, rfl⟩
  obtain ⟨σ', τ', c1, c2, c3, c4, c5, c6, c7⟩ := dayQ (σ := loadF m σ) (τ := τ) (τ1 := beginM m τ) h0 hl T (by rw [g1, b5]; omega) (by rw [g4 1 (by omega), b4]; omega) (fun p hp => by rw [(beginM_c hp).2]; exact M p hp) (fun a b _ _ => rfl)
  refine ⟨σ', τ', loadX h hm, c1, beginMs hm10 hm, c2, c3, c4, c5, h.day hm10 (fun a b n1 n2 n3 n4 => ?_) c7, c7⟩
  rw [c6 a b ⟨by omega, by omega, by omega⟩, loadF_ne n4 (by omega) (by omega)]
theorem dayP {σ τ : IM} {m : Nat} {last : Int} (h : RX σ τ) (hm : τ 0 1 = (m : Int)) (h0 : 0 ≤ last) (hl : last ≤ 999) : ∃ σ' τ' : IM, fX0_load (enc σ) = some (mI 0, enc (loadF m σ)) ∧ fX0_run (mI last) (enc (loadF m σ)) = some (mI 0, enc σ') ∧ fX7_begin (enc τ) = some (mI 0, enc (beginM m τ)) ∧ fX7_goTo (mI last) (enc (beginM m τ)) = some (mI 0, enc τ') ∧ XI σ' m (last + 1) ∧ DG σ' τ' m ∧ DW σ' τ' m (fun _ => last + 1) (last + 1) ∧ RX σ' τ' := by
  obtain ⟨σ', τ', a1, a2, a3, a4, a5, a6, a7, a8, -⟩ := dayPf h hm h0 hl
  exact ⟨σ', τ', a1, a2, a3, a4, a5, a6, a7, a8⟩
