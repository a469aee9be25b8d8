/-! days: class and reference, phase by phase -/
def DG (σ τ : IM) (m : Nat) : Prop := (σ 30 6 = (m : Int) ∧ τ 0 1 = (m : Int) ∧ m ≤ 10) ∧ (σ 30 3 = τ 0 23 ∧ 1 ≤ τ 0 23 ∧ τ 0 23 ≤ 400) ∧ (σ 30 4 = τ 0 24 ∧ 0 ≤ τ 0 24 ∧ τ 0 24 ≤ 1000) ∧ (σ 30 2 = τ 0 27 ∧ -1 ≤ τ 0 27 ∧ τ 0 27 < 1024) ∧ (σ 30 5 = τ 0 25) ∧ (∀ j, j < 6 → j ≠ 1 → σ 32 j = τ 2 j ∧ 0 ≤ τ 2 j ∧ τ 2 j ≤ 200) ∧ (σ 32 1 = τ 0 26 ∧ 0 ≤ τ 0 26 ∧ τ 0 26 ≤ 2) ∧ (τ 0 26 = 2 → σ 33 0 = τ 18 1 ∧ σ 33 1 = τ 18 0) ∧ (∀ l, l < 2 → -1000 ≤ τ 18 l ∧ τ 18 l ≤ 1000)
def DX (σ τ : IM) (m p : Nat) : Prop := WS (σ (34 + p)) (fun j => τ 1 (7 * p + j)) ∧ (0 ≤ τ 1 (7 * p + 2) ∧ τ 1 (7 * p + 2) ≤ 3) ∧ (1 ≤ τ 1 (7 * p + 3) ∧ τ 1 (7 * p + 3) ≤ 20) ∧ σ (34 + p) 5 = (if τ 1 (7 * p + 2) = 3 then 1 else 0) ∧ σ (34 + p) 6 = (p : Int) ∧ ((τ 16 p < 0 ∧ -10 ≤ τ 16 p ∧ σ (34 + p) 7 = 0) ∨ ∃ q : Nat, q < m ∧ τ 16 p = (q : Int) ∧ σ (34 + p) 7 = ((2 ^ q : Nat) : Int))
def DW (σ τ : IM) (m : Nat) (u : Nat → Int) (w : Int) : Prop := ∀ p, p < m → DX σ τ m p ∧ WD (σ (34 + p)) (fun a => τ a p) (fun j => τ 1 (7 * p + j)) (u p) w
theorem WS.cong {x x' pe : Nat → Int} (h : WS x pe) (e : ∀ b, b < 5 → x' b = x b) : WS x' pe := by
  unfold WS at *
  rw [e 0 (by omega), e 1 (by omega), e 2 (by omega), e 3 (by omega), e 4 (by omega)]
  exact h
theorem WD.cy {x y y' pe : Nat → Int} {u w : Int} (h : WD x y pe u w) (e : ∀ a, 5 ≤ a → a ≤ 15 → y' a = y a) : WD x y' pe u w := by
  unfold WD at *
  rw [e 5 (by omega) (by omega), e 6 (by omega) (by omega), e 7 (by omega) (by omega), e 8 (by omega) (by omega), e 9 (by omega) (by omega), e 10 (by omega) (by omega), e 11 (by omega) (by omega), e 12 (by omega) (by omega), e 13 (by omega) (by omega), e 14 (by omega) (by omega), e 15 (by omega) (by omega)]
  exact h
theorem WD.CB {x y pe : Nat → Int} {u w : Int} (hs : WS x pe) (h : WD x y pe u w) (hu : u ≤ 1000) (hw : w ≤ 1000) (h2 : 0 ≤ pe 2 ∧ pe 2 ≤ 3) (h3 : 1 ≤ pe 3 ∧ pe 3 ≤ 20) : CB y pe := by
  obtain ⟨s1, s2, s3, s4, s5⟩ := hs
  obtain ⟨⟨a1, a2⟩, a3, ⟨a4, a5, a6⟩, -, a11⟩ := h
  have a12 : 0 ≤ y 12 ∧ y 12 ≤ u := by split at a6 <;> omega
  clear a6
  refine ⟨by omega, by omega, by omega, ?_, by omega, by omega, by omega, h2, h3, by omega, by omega⟩
  clear a1 a2 a3 a4 a5
  omega
theorem WD.WM {τ : IM} {p : Nat} {x pe : Nat → Int} {u w : Int} (h : WD x (fun a => τ a p) pe u w) : WM τ p := by
  obtain ⟨⟨a1, a2⟩, a3, ⟨a4, a5, a6⟩, ⟨a7, a8, a9, a10⟩, a11⟩ := h
  clear a6 a3 a1 a2
  dsimp only at *
  exact ⟨by omega, by omega, by omega, fun e => by omega⟩
theorem DX.cong {σ τ σ' τ' : IM} {m p : Nat} (h : DX σ τ m p) (h1 : ∀ b, b < 8 → σ' (34 + p) b = σ (34 + p) b) (h2 : ∀ j, τ' 1 j = τ 1 j) (h3 : τ' 16 p = τ 16 p) : DX σ' τ' m p := by
  obtain ⟨a1, a2, a3, a4, a5, a6⟩ := h
  unfold DX
  rw [show (fun j => τ' 1 (7 * p + j)) = (fun j => τ 1 (7 * p + j)) from funext fun j => h2 _, h2, h2, h3, h1 5 (by omega), h1 6 (by omega), h1 7 (by omega)]
  exact ⟨a1.cong (fun b hb => h1 b (by omega)), a2, a3, a4, a5, a6⟩
/-- waiting, in both -/
theorem bit_p2 : ∀ h, h < 10 → ∀ i, i < 10 → ((2 ^ h / 2 ^ i % 2 = 1) ↔ i = h) := by decide +kernel
theorem bitZ_p2 {h i : Nat} (hh : h < 10) (hi : i < 10) : bitZ ((2 ^ h : Nat) : Int) i = 1 ↔ i = h := by
  have := bit_p2 h hh i hi
  unfold bitZ
  rw [Int.toNat_natCast]
  omega
theorem hv_mw {σ τ : IM} {m p : Nat} {u : Nat → Int} {w : Int} (hm : m ≤ 10) (h : DW σ τ m u w) (hp : p < m) : hv m σ p = mwF τ p := by
  have A := (h p hp).1.2.2.2.2.2
  have W := (h p hp).2
  have key : hv m σ p = 1 ↔ mwF τ p = 1 := by
    rw [hv_iff]
    unfold mwF
    rcases A with ⟨a1, a2, a3⟩ | ⟨q, a1, a2, a3⟩
    · rw [if_neg (by omega), a3]
      refine ⟨fun ⟨q, h1, h2, _⟩ => ?_, fun x => absurd x (by decide)⟩
      unfold bitZ at h2
      simp at h2
    · have V := (h q a1).2
      obtain ⟨⟨b1, -⟩, -, -, -, b11⟩ := V
      obtain ⟨⟨d1, -⟩, -, -, -, -⟩ := W
      dsimp only at b1 b11 d1
      rw [if_pos (by omega), show (τ 16 p).toNat = q by omega, a3]
      constructor
      · rintro ⟨r, h1, h2, h3, h4⟩
        have e := (bitZ_p2 (by omega) (by omega)).1 h2
        subst e
        rw [if_pos (by omega)]
      · intro x
        have c : (τ 5 q = 2 ∧ τ 8 q = 0) ∧ τ 6 q = τ 6 p := by
          by_cases c : (τ 5 q = 2 ∧ τ 8 q = 0) ∧ τ 6 q = τ 6 p
          · exact c
          · rw [if_neg c] at x
            exact absurd x (by decide)
        exact ⟨q, a1, (bitZ_p2 (by omega) (by omega)).2 rfl, by omega, by omega⟩
  rcases hv_01 m σ p with a | a
  · rcases mwF_01 τ p with b | b
    · rw [a, b]
    · have := key.2 b
      omega
  · rw [a, key.1 a]
theorem WD.off {x y pe : Nat → Int} {t h : Int} (hs : WS x pe) (hx : WD x y pe t t) (ht : 0 ≤ t ∧ t ≤ 1000) (hh : h = 0 ∨ h = 1) : WD (offR t h x) (offC t (pe 4) (flC h y)) pe t (t + 1) := by
  have up : WD x y pe t (t + 1) := by
    obtain ⟨⟨a1, a2⟩, a3, ⟨a4, a5, a6⟩, a7, a11⟩ := hx
    refine ⟨⟨a1, a2⟩, ?_, ⟨⟨a4.1, a4.2.1, Int.le_trans a4.2.2 (by omega)⟩, a5, a6⟩, a7, ?_⟩
    · rcases a3 with d | ⟨d1, d2, d3, d4⟩
      · exact Or.inl d
      · exact Or.inr ⟨d1, d2, d3, Int.lt_trans d4 (by omega)⟩
    · rcases a11 with ⟨d, e | ⟨e1, e2, e3, e4, e5⟩⟩ | d
      · exact Or.inl ⟨d, Or.inl e⟩
      · exact Or.inl ⟨d, Or.inr ⟨e1, e2, e3, e4, Int.lt_trans e5 (by omega)⟩⟩
      · exact Or.inr d
  by_cases c : x 8 = 2
  · have c1 : y 5 = 2 ∧ y 8 = 1 := by
      obtain ⟨-, -, -, -, a11⟩ := hx
      omega
    rcases hh with rfl | rfl
    · have e1 : offR t 0 x = comeR t x := funext fun b => by unfold offR; rw [if_pos c, if_neg (by decide)]
      have f17 : flC 0 y 17 = 1 := by unfold flC; rw [if_pos rfl, if_pos ⟨c1, rfl⟩]
      have e2 : offC t (pe 4) (flC 0 y) = comeC t (pe 4) (flC 0 y) := funext fun a => by unfold offC; rw [if_pos f17]
      rw [e1, e2]
      have f : ∀ a, a ≤ 15 → flC 0 y a = y a := fun a h6 => by
        unfold flC
        rw [if_neg (by omega)]
        by_cases d : a = 13
        · rw [if_pos d, if_neg (fun x => x.2 rfl), d]; omega
        · rw [if_neg d]
      exact WD.come hs (up.cy (fun a _ h6 => f a h6)) (by rw [f 5 (by omega)]; exact c1.1) ht
    · have e2 : ∀ a, a ≤ 15 → offC t (pe 4) (flC 1 y) a = (if a = 13 then y 13 + 1 else y a) := fun a h6 => by
        have f17 : flC 1 y 17 = 0 := by unfold flC; rw [if_pos rfl, if_neg (fun x => absurd x.2 (by decide))]
        unfold offC
        rw [f17, if_neg (by decide)]
        unfold flC
        rw [if_neg (by omega)]
        by_cases d : a = 13
        · rw [if_pos d, if_pos d, if_pos ⟨c1, by decide⟩]
        · rw [if_neg d, if_neg d]
      refine WD.cy (y := fun a => if a = 13 then y 13 + 1 else y a) ?_ (fun a _ h6 => e2 a h6)
      obtain ⟨⟨a1, a2⟩, a3, ⟨a4, a5, a6⟩, ⟨a7, a8, a9, a10⟩, a11⟩ := up
      have a4' := hx.2.2.1.1
      rw [if_neg (by omega)] at a6
      unfold WD
      simp (implicitDefEqProofs := false) only [offR, c, Nat.reduceEqDiff, Int.reduceEq, ne_eq, not_true_eq_false, not_false_eq_true, true_and, and_true, false_and, and_false, or_false, false_or, false_implies, if_true, if_false, ↓reduceIte]
      omega
  · have c1 : ¬ (y 5 = 2 ∧ y 8 = 1) := by
      obtain ⟨-, -, -, -, a11⟩ := hx
      omega
    rw [offR_no c]
    refine up.cy (fun a _ h6 => ?_)
    have f17 : flC h y 17 = 0 := by unfold flC; rw [if_pos rfl, if_neg (fun x => c1 x.1)]
    unfold offC
    rw [f17, if_neg (by decide)]
    unfold flC
    rw [if_neg (by omega)]
    by_cases d : a = 13
    · rw [if_pos d, if_neg (fun x => c1 x.1), d]; omega
    · rw [if_neg d]
/-- the counts, in both -/
theorem pop_all : ∀ c, c < 1024 → ∀ i, i < 10 → c < 2 ^ i → popc (c ||| 2 ^ i) = popc c + 1 := by decide +kernel
theorem sp_ps {σ τ : IM} {m : Nat} {b B : Int} (h : ∀ p, p < m → ((stp m b σ p ∧ ¬ σ (34 + p) 5 = 0) ↔ ((τ 17 p = 1 ∧ ¬ τ 6 p = B) ∧ τ 1 (7 * p + 2) = 3))) : ∀ d i s, i + d = m → spF m b σ d i s = psF τ B d i s
  | 0, _, _, _ => rfl
  | d + 1, i, s, e => by
    unfold spF psF
    have k := h i (by omega)
    by_cases c : stp m b σ i ∧ ¬ σ (34 + i) 5 = 0
    · rw [if_pos c, if_pos (k.1 c)]
      exact sp_ps h d (i + 1) _ (by omega)
    · rw [if_neg c, if_neg (fun x => c (k.2 x))]
      exact sp_ps h d (i + 1) _ (by omega)
theorem msk_pl {σ τ : IM} {m : Nat} {b B : Int} (hm : m ≤ 10) (h : ∀ p, p < m → ((stp m b σ p ∧ σ (34 + p) 5 = 0) ↔ ((τ 17 p = 1 ∧ ¬ τ 6 p = B) ∧ ¬ τ 1 (7 * p + 2) = 3))) (h6 : ∀ p, p < m → σ (34 + p) 6 = (p : Int)) : ∀ d i c n, i + d = m → c < 2 ^ i → popc c = n → popc (mskF m b σ d i c) = plF τ B d i n
  | 0, _, _, _, _, _, e => e
  | d + 1, i, c, n, e, hc, hn => by
    unfold mskF plF
    have k := h i (by omega)
    have lt : 2 ^ i < 2 ^ (i + 1) := Nat.pow_lt_pow_right (by decide) (by omega)
    have le : 2 ^ i ≤ 2 ^ 10 := Nat.pow_le_pow_right (by decide) (by omega)
    by_cases a : stp m b σ i ∧ σ (34 + i) 5 = 0
    · rw [if_pos a, if_pos (k.1 a), h6 i (by omega), Int.toNat_natCast]
      refine msk_pl hm h h6 d (i + 1) _ _ (by omega) (Nat.or_lt_two_pow (by omega) lt) ?_
      rw [pop_all c (by omega) i (by omega) hc, hn]
    · rw [if_neg a, if_neg (fun x => a (k.2 x))]
      exact msk_pl hm h h6 d (i + 1) _ _ (by omega) (by omega) hn
theorem cntV_eq {c t l l' l1 l2 : Int} (h : l1 = 2 → l = l') : cntV c t l l1 l2 = cntV c t l' l1 l2 := by
  unfold cntV
  by_cases e : l1 = 2
  · rw [h e]
  · split
    · rfl
    · rw [if_neg (fun x => e x.1), if_neg (fun x => e x.1)]
theorem nF_nM {σ τ : IM} {m b : Nat} {t : Int} {u : Nat → Int} {w : Int} (hb : b < 2) (hG : DG σ τ m) (hW : DW σ τ m u w) : nF m t b σ = nM m t (1 - b) (eachM τ 0 m (fun p => flC (mwF τ p) (fun a => τ a p))) ∧ (τ 0 26 = 2 → lcF m t b σ = lM m t (1 - b) (eachM τ 0 m (fun p => flC (mwF τ p) (fun a => τ a p)))) := by
  obtain ⟨⟨g1, g2, hm⟩, g3, g4, g5, g6, gL, g7, g8, g9⟩ := hG
  have l2 := gL 2 (by omega) (by omega)
  generalize hτ1 : eachM τ 0 m (fun p => flC (mwF τ p) (fun a => τ a p)) = τ1
  have k1 : ∀ p, p < m → ∀ a, 5 ≤ a → a ≤ 17 → τ1 a p = flC (mwF τ p) (fun a => τ a p) a := fun p hp a h5 h6 => by rw [← hτ1, eachM_in ⟨h5, h6⟩ (by omega) hp]
  have k2 : ∀ a b, ¬ ((5 ≤ a ∧ a ≤ 17) ∧ b < m) → τ1 a b = τ a b := fun a b h => by rw [← hτ1, eachM_ne (by omega)]
  have base : ∀ p, p < m → (stp m b σ p ↔ (τ1 17 p = 1 ∧ ¬ τ1 6 p = ((1 - b : Nat) : Int))) := fun p hp => by
    have H := hv_mw hm hW hp
    obtain ⟨⟨d1, -⟩, -, -, -, d11⟩ := (hW p hp).2
    dsimp only at d1 d11
    have f17 : τ1 17 p = (if (τ 5 p = 2 ∧ τ 8 p = 1) ∧ mwF τ p = 0 then 1 else 0) := by
      rw [k1 p hp 17 (by omega) (by omega)]
      rfl
    have f6 : τ1 6 p = τ 6 p := by
      rw [k1 p hp 6 (by omega) (by omega)]
      rfl
    unfold stp
    rw [f17, f6, H]
    rcases mwF_01 τ p with a | a
    · rw [a]
      by_cases c : τ 5 p = 2 ∧ τ 8 p = 1
      · rw [if_pos ⟨c, rfl⟩]
        omega
      · rw [if_neg (fun x => c x.1)]
        omega
    · rw [a, if_neg (fun x => absurd x.2 (by decide))]
      omega
  have x5 : ∀ p, p < m → σ (34 + p) 5 = (if τ 1 (7 * p + 2) = 3 then 1 else 0) := fun p hp => (hW p hp).1.2.2.2.1
  have kk : ∀ p, τ1 1 (7 * p + 2) = τ 1 (7 * p + 2) := fun p => k2 _ _ (by omega)
  have A := sp_ps (σ := σ) (τ := τ1) (m := m) (b := b) (B := ((1 - b : Nat) : Int)) (fun p hp => by
    rw [base p hp, x5 p hp, kk]
    by_cases c : τ 1 (7 * p + 2) = 3
    · rw [if_pos c]
      exact ⟨fun x => ⟨x.1, c⟩, fun x => ⟨x.1, by decide⟩⟩
    · rw [if_neg c]
      exact ⟨fun x => absurd rfl x.2, fun x => absurd x.2 c⟩) m 0 0 (by omega)
  have B := msk_pl (σ := σ) (τ := τ1) (m := m) (b := b) (B := ((1 - b : Nat) : Int)) hm (fun p hp => by
    rw [base p hp, x5 p hp, kk]
    by_cases c : τ 1 (7 * p + 2) = 3
    · rw [if_pos c]
      exact ⟨fun x => absurd x.2 (by decide), fun x => absurd c x.2⟩
    · rw [if_neg c]
      exact ⟨fun x => ⟨x.1, c⟩, fun x => ⟨x.1, rfl⟩⟩) (fun p hp => (hW p hp).1.2.2.2.2.1) m 0 0 0 (by omega) (by decide) (by decide)
  have e26 : τ1 0 26 = τ 0 26 := k2 _ _ (by omega)
  have e22 : τ1 2 2 = τ 2 2 := k2 _ _ (by omega)
  have e18 : ∀ l, τ1 18 l = τ 18 l := fun l => k2 _ _ (by omega)
  have el : τ 0 26 = 2 → σ 33 b = τ 18 (1 - b) := fun e => by
    have := g8 e
    by_cases c : b = 0
    · rw [c]; exact this.1
    · rw [show b = 1 by omega]; exact this.2
  unfold nF nM lcF lM
  rw [A, B, e26, e22, e18, g7.1, l2.1]
  constructor
  · rw [cntV_eq (l := σ 33 b) (l' := τ 18 (1 - b)) el]
    omega
  · intro e
    rw [el e, e]
    by_cases c : (plF τ1 ((1 - b : Nat) : Int) m 0 0 : Int) = 0
    · rw [if_neg (fun x => x.1 (Or.inl c)), if_neg (fun x => x.2.1 c)]
    · by_cases d : t - τ 2 2 ≤ τ 18 (1 - b)
      · rw [if_neg (fun x => x.2 ⟨rfl, d⟩), if_neg (fun x => x.2.2 d)]
      · rw [if_pos ⟨fun x => x.elim c (by decide), fun x => d x.2⟩, if_pos ⟨rfl, c, d⟩]
