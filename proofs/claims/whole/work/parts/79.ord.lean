/-! order: a day of a row -/
def OT (σ τ : IM) (n : Nat) (w r v : Nat → Nat) (gap : Int) : Prop := (((1 ≤ n ∧ n ≤ 6) ∧ σ 30 6 = (n : Int)) ∧ σ 30 2 = ((2 ^ n : Nat) : Int) - 1 ∧ (σ 32 0 = τ 2 0 ∧ 0 ≤ τ 2 0 ∧ τ 2 0 ≤ 200) ∧ (σ 32 2 = τ 2 2 ∧ 0 ≤ τ 2 2 ∧ τ 2 2 ≤ 200) ∧ σ 32 3 = 0 ∧ σ 32 5 = 0) ∧ WK τ n w ∧ (∀ j, j < n → τ 20 j = (r j : Int)) ∧ ∀ k, k < n → (σ (34 + k) 2 = pcW τ w k) ∧ σ (34 + k) 3 = 1 ∧ σ (34 + k) 5 = (if τ 1 (7 * w k + 2) = 3 then 1 else 0) ∧ σ (34 + k) 6 = (k : Int) ∧ σ (34 + k) 7 = 0 ∧ σ (34 + k) 0 = gO v gap k
def OR (σ τ : IM) (n : Nat) (v : Nat → Nat) (gap t : Int) : Prop := (∀ k, k < n → OQ (σ (34 + k)) (τ 7 k) (τ 8 k) (τ 22 k) (gO v gap k) t ∧ (0 ≤ τ 7 k ∧ τ 7 k ≤ 440) ∧ (0 ≤ τ 8 k ∧ τ 8 k ≤ 1)) ∧ (σ 30 3 = τ 0 23 ∧ 1 ≤ τ 0 23 ∧ τ 0 23 ≤ 400) ∧ (σ 32 1 = τ 0 26 ∧ 0 ≤ τ 0 26 ∧ τ 0 26 ≤ 2) ∧ (τ 0 26 = 2 → σ 33 0 = τ 18 0) ∧ (-1000 ≤ τ 18 0 ∧ τ 18 0 ≤ 1000)
theorem OT.cong {σ τ σ' τ' : IM} {n : Nat} {w r v : Nat → Nat} {gap : Int} (h : OT σ τ n w r v gap) (h1 : ∀ a b, (a = 30 ∧ (b = 2 ∨ b = 6)) ∨ (a = 32) ∨ ((34 ≤ a ∧ a < 34 + n) ∧ b < 8) → σ' a b = σ a b) (h2 : ∀ a b, (a = 0 ∧ b = 29) ∨ a = 1 ∨ a = 2 ∨ a = 19 ∨ a = 20 → τ' a b = τ a b) : OT σ' τ' n w r v gap := by
  obtain ⟨⟨⟨a1, a2⟩, a3, a4, a5, a6, a7⟩, a8, a10, a9⟩ := h
  refine ⟨⟨⟨a1, ?_⟩, ?_, ?_, ?_, ?_, ?_⟩, a8.cong (h2 _ _ (by omega)) (fun b => h2 _ _ (by omega)) (fun b => h2 _ _ (by omega)), fun j hj => ?_, fun k hk => ?_⟩
  · rw [h1 _ _ (by omega)]; exact a2
  · rw [h1 _ _ (by omega)]; exact a3
  · rw [h1 _ _ (by omega), h2 _ _ (by omega)]; exact a4
  · rw [h1 _ _ (by omega), h2 _ _ (by omega)]; exact a5
  · rw [h1 _ _ (by omega)]; exact a6
  · rw [h1 _ _ (by omega)]; exact a7
  · rw [h2 _ _ (by omega)]; exact a10 j hj
  · have e : pcW τ' w k = pcW τ w k := by
      unfold pcW
      rw [h2 _ _ (by omega), h2 _ _ (by omega)]
    rw [h2 1 _ (by omega), e, h1 _ 2 (by omega), h1 _ 3 (by omega), h1 _ 5 (by omega), h1 _ 6 (by omega), h1 _ 7 (by omega), h1 _ 0 (by omega)]
    exact a9 k hk
theorem hv_none {n k : Nat} {σ : IM} (h : σ (34 + k) 7 = 0) : hv n σ k = 0 := by
  rcases hv_01 n σ k with a | a
  · exact a
  · obtain ⟨q, -, h2, -⟩ := hv_iff.1 a
    rw [h] at h2
    unfold bitZ at h2
    simp at h2
theorem or_min {σ τ : IM} {n : Nat} {w r v : Nat → Nat} {gap t : Int} (ht : 0 ≤ t ∧ t ≤ 999) (hX : XI σ n t) (hT : OT σ τ n w r v gap) (hR : OR σ τ n v gap t) : (∀ k, k < n → (stp n (0 : Nat) (walkF n σ) k ↔ stO τ w t (gO v gap) k) ∧ OQ (minF t n σ (34 + k)) (if actO τ t (gO v gap) k then col7 τ w k else τ 7 k) (if actO τ t (gO v gap) k then col8 τ w k else τ 8 k) (if stO τ w t (gO v gap) k then t else τ 22 k) (gO v gap k) (t + 1) ∧ (0 ≤ (if actO τ t (gO v gap) k then col7 τ w k else τ 7 k) ∧ (if actO τ t (gO v gap) k then col7 τ w k else τ 7 k) ≤ 440) ∧ (0 ≤ (if actO τ t (gO v gap) k then col8 τ w k else τ 8 k) ∧ (if actO τ t (gO v gap) k then col8 τ w k else τ 8 k) ≤ 1)) ∧ (nF n t 1 (walkF n σ) = 0) ∧ (∀ a b, ¬ (34 ≤ a ∧ a < 34 + n) → minF t n σ a b = offF t n (walkF n σ) a b) := by
  obtain ⟨⟨⟨a1, a2⟩, a3, a4, a5, a6, a7⟩, a8, a10, a9⟩ := id hT
  obtain ⟨b1, b2, b3, b4, b5⟩ := id hR
  have n8 : ∀ k, k < n → σ (34 + k) 8 ≠ 3 := fun k hk => by
    have := (b1 k hk).1
    unfold OQ at this
    omega
  have w7 : ∀ k, k < n → walkF n σ (34 + k) 7 = 0 := fun k hk => by
    rw [walkF_row hk]
    unfold wlkR
    have := (a9 k hk).2.2.2.2.1
    split
    · rw [if_neg (by omega), if_neg (by omega)]; exact this
    · exact this
  have w9 : ∀ k, k < n → walkF n σ (34 + k) 9 = σ (34 + k) 9 := fun k hk => by
    rw [walkF_row hk]
    unfold wlkR
    split
    · rw [if_neg (by omega), if_neg (by omega)]
    · rfl
  have key := fun k (hk : k < n) => OQ.min (x := σ (34 + k)) (y := fun a => τ a k) (e := τ 22 k) (g := gO v gap k) (t := t) (P := τ 0 23) ht (b1 k hk).1 (b1 k hk).2.1 (b1 k hk).2.2 (by rw [(a9 k hk).1]; exact a8.pc hk) b2.2.2 ⟨(a9 k hk).2.1, (hX.2 k hk).2.2.2.1.1⟩
  refine ⟨fun k hk => ?_, ?_, fun a b h => minF_qn (t := t) (σ := σ) (a := a) (b := b) a1.2 a3 a6 a7 (by omega) n8 h⟩
  · obtain ⟨k1, k2, k3, k4⟩ := key k hk
    rw [(a9 k hk).1] at k1 k2 k3 k4
    have hh := hv_none (n := n) (k := k) (w7 k hk)
    rw [minF_qr (t := t) (σ := σ) (k := k) a1.2 a3 a6 a7 (by omega) n8 hk, hh, b2.1]
    refine ⟨?_, k2, k3, k4⟩
    unfold stp stO actO col8
    rw [hh, ← k1, walkF_row hk, b2.1]
    constructor
    · intro x
      exact x.1.1
    · intro x
      refine ⟨⟨x, ?_⟩, rfl⟩
      have := w9 k hk
      rw [walkF_row hk, b2.1] at this
      rw [this]
      have Q := (b1 k hk).1
      have x' := k1.1 x
      unfold OQ at Q
      show σ (34 + k) 9 = 0
      omega
  · exact (nF_0 (m := n) (b := 1) (t := t) (σ := walkF n σ) (fun k hk x => by
      have h8 := x.1.1
      have h9 := x.1.2
      rw [w9 k hk] at h9
      have x' := (key k hk).1.1 (by rw [walkF_row hk, b2.1] at h8; exact h8)
      have Q := (b1 k hk).1
      unfold OQ at Q
      omega)).1
theorem or_step {σ τ : IM} {n : Nat} {w r v : Nat → Nat} {gap t : Int} (ht : 0 ≤ t ∧ t ≤ 999) (hg : 0 ≤ gap ∧ gap ≤ 60) (hok : okP n r = true) (hv : ∀ k, k < n → v k < n ∧ r (v k) = k ∧ r k < n ∧ v (r k) = k) (hX : XI σ n t) (hT : OT σ τ n w r v gap) (hR : OR σ τ n v gap t) (hl : 0 < cN (fun k => τ 22 k = -1) n) : ∃ τ' : IM, (∀ (N : Nat) (K : Mm → Aa) (z : Int32 → Int32 → Mm → Aa), mm_lk z (fX7_goOrder_L11 (mI gap) K) (N + 1) (mI (cN (fun k => τ 22 k = -1) n)) (mI t) (enc τ) = mm_lk z (fX7_goOrder_L11 (mI gap) K) N (mI (cN (fun k => τ' 22 k = -1) n)) (mI (t + 1)) (enc τ')) ∧ OT (minF t n σ) τ' n w r v gap ∧ OR (minF t n σ) τ' n v gap (t + 1) ∧ ∀ a b, ¬ ((a = 7 ∨ a = 8 ∨ a = 22) ∧ b < n) → ¬ (a = 18 ∧ b = 0) → ¬ (a = 0 ∧ b = 23) → τ' a b = τ a b := by
  obtain ⟨⟨⟨a1, a2⟩, a3, a4, a5, a6, a7⟩, a8, a10, a9⟩ := id hT
  obtain ⟨b1, b2, b3, b4, b5⟩ := id hR
  obtain ⟨m1, m2, m3⟩ := or_min ht hX hT hR
  have lb : cN (fun k => τ 22 k = -1) n ≤ n := cN_le n
  obtain ⟨τ', T1, T2, T3, T4, T5⟩ := turnO (n := n) (w := w) (r := r) (v := v) (t := t) (gap := gap) (left := (cN (fun k => τ 22 k = -1) n : Int)) (τ := τ) ht hg a8 (by omega) (fun k hk => by
    have Q := (b1 k hk).1
    unfold OQ at Q
    have := (b1 k hk).2
    exact ⟨by omega, by omega, by omega⟩) hok (fun j hj => ⟨a10 j hj, (hv j hj).2.2⟩) (fun k hk => ⟨(hv k hk).1, (hv k hk).2.1⟩) b2.2 b3.2 a4.2 a5.2 b5
  have wn : ∀ a b, ¬ (34 ≤ a ∧ a < 34 + n) → walkF n σ a b = σ a b := fun a b => walkF_ne
  have w7 : ∀ k, k < n → ∀ b, b < 8 → walkF n σ (34 + k) b = σ (34 + k) b := fun k hk b hb => by
    rw [walkF_row hk]
    unfold wlkR
    split
    · rw [if_neg (by omega), if_neg (by omega)]
    · rfl
  have sp1 := spF_c (m := n) (B := (0 : Nat)) (σ := walkF n σ) (p := fun k => stO τ w t (gO v gap) k ∧ τ 1 (7 * w k + 2) = 3) (fun k hk => by
    rw [(m1 k hk).1, w7 k hk 5 (by omega), (a9 k hk).2.2.1]
    by_cases c : τ 1 (7 * w k + 2) = 3
    · rw [if_pos c]
      exact ⟨fun x => ⟨x.1, by decide⟩, fun x => ⟨x.1, c⟩⟩
    · rw [if_neg c]
      exact ⟨fun x => absurd x.2 c, fun x => absurd rfl x.2⟩) n 0 0 (by omega)
  have sp2 : spF n (0 : Nat) (walkF n σ) n 0 0 = spO τ w v t gap n := by
    have z : cN (fun k => stO τ w t (gO v gap) k ∧ τ 1 (7 * w k + 2) = 3) 0 = 0 := rfl
    unfold spO
    omega
  have pc1 : popc (mskF n (0 : Nat) (walkF n σ) n 0 0) = plO τ w v t gap n := popc_msk (m := n) (n := n) (B := (0 : Nat)) (σ := walkF n σ) (p := fun k => stO τ w t (gO v gap) k ∧ ¬ τ 1 (7 * w k + 2) = 3) (by omega) (fun k hk => by
    rw [w7 k hk 6 (by omega), (a9 k hk).2.2.2.1]
    omega) (fun c hc => by
    constructor
    · rintro ⟨x1, x2⟩
      refine ⟨c, hc, ⟨(m1 c hc).1.2 x1, ?_⟩, ?_⟩
      · rw [w7 c hc 5 (by omega), (a9 c hc).2.2.1, if_neg x2]
      · rw [w7 c hc 6 (by omega), (a9 c hc).2.2.2.1]
    · rintro ⟨k, hk, ⟨y1, y2⟩, y3⟩
      rw [w7 k hk 6 (by omega), (a9 k hk).2.2.2.1] at y3
      have e : k = c := by omega
      subst e
      rw [w7 k hk 5 (by omega), (a9 k hk).2.2.1] at y2
      refine ⟨(m1 k hk).1.1 y1, fun c3 => ?_⟩
      rw [if_pos c3] at y2
      exact absurd y2 (by decide))
  have s33 : walkF n σ 33 0 = σ 33 0 := wn _ _ (by omega)
  have s321 : walkF n σ 32 1 = τ 0 26 := by rw [wn _ _ (by omega)]; exact b3.1
  have s322 : walkF n σ 32 2 = τ 2 2 := by rw [wn _ _ (by omega)]; exact a5.1
  have nf : nF n t 0 (walkF n σ) = cntV (plO τ w v t gap n : Int) t (τ 18 0) (τ 0 26) (τ 2 2) + (spO τ w v t gap n : Int) := by
    unfold nF
    rw [sp2, pc1, s33, s321, s322, cntV_eq (l := σ 33 0) (l' := τ 18 0) b4]
    omega
  have nb : 0 ≤ nF n t 0 (walkF n σ) ∧ nF n t 0 (walkF n σ) ≤ 20 := nF_rng (by omega)
  have mm : 0 ≤ τ 2 0 * nF n t 0 (walkF n σ) := Int.mul_nonneg a4.2.1 nb.1
  rw [← nf] at T4
  refine ⟨τ', fun N K z => ?_, ?_, ?_, T5⟩
  · rw [T1]
    have le : (cN (fun k => τ 22 k = -1) n : Int) - (lfO τ w v t gap n : Int) = (cN (fun k => τ' 22 k = -1) n : Int) := by
      have := cN_add (p := fun k => τ' 22 k = -1) (q := fun k => stO τ w t (gO v gap) k) (r := fun k => τ 22 k = -1) n (fun k hk => by
        have t22 := (T2 k hk).2.2
        have Q := (b1 k hk).1
        by_cases g : stO τ w t (gO v gap) k
        · rw [if_pos g] at t22
          have e1 : τ 22 k = -1 := by
            have := g.1.1
            unfold OQ at Q
            omega
          exact ⟨⟨fun _ => Or.inr g, fun _ => e1⟩, fun x => by have := x.1; omega⟩
        · rw [if_neg g] at t22
          rw [t22]
          exact ⟨⟨Or.inl, fun x => x.elim id (fun y => absurd y g)⟩, fun x => g x.2⟩)
      unfold lfO
      omega
    rw [le]
  · refine hT.cong (fun a b h => ?_) (fun a b h => T5 a b (by omega) (by omega) (by omega))
    by_cases c : 34 ≤ a ∧ a < 34 + n
    · obtain ⟨p, rfl⟩ : ∃ p, a = 34 + p := ⟨a - 34, by omega⟩
      exact minF_lo (by omega) (by omega)
    · exact minF_ne c (by omega) (by omega)
  · refine ⟨fun k hk => ?_, ?_, ?_, fun e26 => ?_, ?_⟩
    · obtain ⟨t7, t8, t22⟩ := T2 k hk
      rw [t7, t8, t22]
      exact (m1 k hk).2
    · rw [m3 30 3 (by omega), offF_3, m2, wn 30 3 (by omega), wn 32 0 (by omega), b2.1, a4.1, T4, Int.add_zero]
      refine ⟨rfl, ?_⟩
      split <;> omega
    · rw [minF_ne (by omega) (by omega) (by omega), T5 _ _ (by omega) (by omega) (by omega)]; exact b3
    · rw [T5 _ _ (by omega) (by omega) (by omega)] at e26
      rw [m3 33 0 (by omega), offF_33 (by omega), T3]
      unfold lcF
      rw [pc1, s33, s321, s322, b4 e26, e26]
      by_cases c : (plO τ w v t gap n : Int) = 0
      · rw [if_neg (fun x => x.1 (Or.inl c)), if_neg (fun x => x.2.1 c)]
      · by_cases d : t - τ 2 2 ≤ τ 18 0
        · rw [if_neg (fun x => x.2 ⟨rfl, d⟩), if_neg (fun x => x.2.2 d)]
        · rw [if_pos ⟨fun x => x.elim c (by decide), fun x => d x.2⟩, if_pos ⟨rfl, c, d⟩]
    · rw [T3]
      split <;> omega
theorem or_idle {σ τ : IM} {n : Nat} {w r v : Nat → Nat} {gap t : Int} (ht : 0 ≤ t ∧ t ≤ 999) (hX : XI σ n t) (hT : OT σ τ n w r v gap) (hR : OR σ τ n v gap t) (hl : cN (fun k => τ 22 k = -1) n = 0) : OT (minF t n σ) τ n w r v gap ∧ OR (minF t n σ) τ n v gap (t + 1) := by
  obtain ⟨⟨⟨a1, a2⟩, a3, a4, a5, a6, a7⟩, a8, a10, a9⟩ := id hT
  obtain ⟨b1, b2, b3, b4, b5⟩ := id hR
  obtain ⟨m1, m2, m3⟩ := or_min ht hX hT hR
  have ov : ∀ k, k < n → 0 ≤ τ 22 k ∧ σ (34 + k) 8 = 4 := fun k hk => by
    have := cN_none n hl k hk
    have Q := (b1 k hk).1
    unfold OQ at Q
    omega
  have wl : ∀ k, k < n → walkF n σ (34 + k) 8 ≠ 2 := fun k hk => by
    have := (ov k hk).2
    rw [walkF_row hk]
    unfold wlkR
    rw [if_neg (by omega)]
    omega
  obtain ⟨z0, z1, z2⟩ := q_none (t := t) (σ := σ) (n := n) wl
  have wn : ∀ a b, ¬ (34 ≤ a ∧ a < 34 + n) → walkF n σ a b = σ a b := fun a b => walkF_ne
  refine ⟨hT.cong (fun a b h => ?_) (fun _ _ _ => rfl), fun k hk => ?_, ?_, ?_, fun e => ?_, b5⟩
  · by_cases c : 34 ≤ a ∧ a < 34 + n
    · obtain ⟨p, rfl⟩ : ∃ p, a = 34 + p := ⟨a - 34, by omega⟩
      exact minF_lo (by omega) (by omega)
    · exact minF_ne c (by omega) (by omega)
  · have na : ¬ actO τ t (gO v gap) k := fun x => by have := x.1; have := (ov k hk).1; omega
    have ns : ¬ stO τ w t (gO v gap) k := fun x => na x.1
    have M := (m1 k hk).2
    rw [if_neg na, if_neg na, if_neg ns] at M
    exact M
  · rw [m3 30 3 (by omega), offF_3, z0, z1, wn 30 3 (by omega), show (0 : Int) + 0 = 0 from rfl, Int.mul_zero, Int.add_zero]
    by_cases c : σ 30 3 < 400
    · rw [if_pos c]; exact b2
    · rw [if_neg c]; omega
  · rw [minF_ne (by omega) (by omega) (by omega)]; exact b3
  · rw [m3 33 0 (by omega), offF_33 (by omega), z2]; exact b4 e
theorem dayOr {σ τ : IM} {n : Nat} {w r v : Nat → Nat} {gap : Int} (hg : 0 ≤ gap ∧ gap ≤ 60) (hok : okP n r = true) (hv : ∀ k, k < n → v k < n ∧ r (v k) = k ∧ r k < n ∧ v (r k) = k) (hLD : LD σ n) (hT : OT σ τ n w r v gap) (h01 : ∀ k, k < n → σ (34 + k) 1 = 0) (h7 : σ 30 7 = τ 0 3) (h1 : σ 32 1 = τ 2 1 ∧ 0 ≤ τ 2 1 ∧ τ 2 1 ≤ 2) : ∃ σ' τ' : IM, fX0_run (mI 999) (enc σ) = some (mI 0, enc σ') ∧ fX7_goOrder (mI gap) (enc τ) = some (mI 0, enc τ') ∧ (∀ k, k < n → σ' (34 + k) 14 = τ' 22 k ∧ 0 ≤ τ' 22 k ∧ τ' 22 k ≤ 1000) ∧ (∀ a b, frX n a b → σ' a b = σ a b) ∧ (∀ a b, frS n a b → τ' a b = τ a b) := by
  obtain ⟨⟨⟨a1, a2⟩, a3, a4, a5, a6, a7⟩, a8, a10, a9⟩ := id hT
  have h29 := a8.1.1
  obtain ⟨g1, g2, g3, g4⟩ := bsF_g (n := n) (τ := τ)
  have fB : ∀ a b, frS n a b → bsF n τ a b = τ a b := fun a b h => bsF_ne h.1 h.2.1 h.2.2
  have l0 : cN (fun k => bsF n τ 22 k = -1) n = n := cN_all n (fun k hk => (g4 k hk).2.2)
  have gk : ∀ k, k < n → 0 ≤ gO v gap k ∧ gO v gap k ≤ 360 := fun k hk => by
    have := (hv k hk).1
    have p1 : 0 ≤ (v k : Int) * gap := Int.mul_nonneg (by omega) hg.1
    have p2 : (v k : Int) * gap ≤ 6 * 60 := Int.mul_le_mul (by omega) hg.2 hg.1 (by omega)
    exact ⟨p1, by show (v k : Int) * gap ≤ 360; omega⟩
  obtain ⟨d1, d2, d3, d4, d5⟩ := beginF_g (m := n) (σ := σ)
  have fr0 : ∀ a b, frX n a b → beginF n σ a b = σ a b := fun a b h => beginF_fr h
  have T0 : OT (beginF n σ) (bsF n τ) n w r v gap := hT.cong (fun a b h => fr0 a b ⟨by omega, by omega, by omega⟩) (fun a b h => fB a b ⟨by omega, by omega, by omega⟩)
  have R0 : OR (beginF n σ) (bsF n τ) n v gap 0 := by
    refine ⟨fun k hk => ?_, ?_, ?_, fun _ => by rw [d4, g3], by rw [g3]; omega⟩
    · rw [beginF_row hk, (g4 k hk).1, (g4 k hk).2.1, (g4 k hk).2.2]
      refine ⟨Or.inl ⟨rfl, ?_, ?_, (gk k hk).1, rfl, rfl, rfl⟩, by omega, by omega⟩
      · show σ (34 + k) 1 = 0
        exact h01 k hk
      · show σ (34 + k) 0 = gO v gap k
        exact (a9 k hk).2.2.2.2.2
    · rw [d1, g1]
      have := hLD.2.1
      omega
    · rw [fr0 32 1 ⟨by omega, by omega, by omega⟩, g2]; exact h1
  have R := runX (P := fun t σ1 => ∃ (τ1 : IM) (j : Nat), ((j : Int) = t ∨ (cN (fun k => τ1 22 k = -1) n = 0 ∧ (j : Int) ≤ t)) ∧ (∀ (N : Nat) (K : Mm → Aa) (z : Int32 → Int32 → Mm → Aa), mm_lk z (fX7_goOrder_L11 (mI gap) K) (N + j) (mI n) (mI 0) (enc (bsF n τ)) = mm_lk z (fX7_goOrder_L11 (mI gap) K) N (mI (cN (fun k => τ1 22 k = -1) n)) (mI (j : Int)) (enc τ1)) ∧ OT σ1 τ1 n w r v gap ∧ OR σ1 τ1 n v gap t ∧ (∀ a b, frX n a b → σ1 a b = σ a b) ∧ (∀ a b, frS n a b → τ1 a b = τ a b)) (last := 999) (by omega) (by omega) hLD (fun t σ1 ht1 ht2 hX hP => by
      obtain ⟨τ1, j, p1, p2, p3, p4, p5, p6⟩ := hP
      have mf : ∀ a b, frX n a b → minF t n σ1 a b = σ a b := fun a b h => by rw [minF_fr h, p5 a b h]
      by_cases z : cN (fun k => τ1 22 k = -1) n = 0
      · obtain ⟨i1, i2⟩ := or_idle (by omega) hX p3 p4 z
        exact ⟨τ1, j, Or.inr ⟨z, by omega⟩, p2, i1, i2, mf, p6⟩
      · have jt : (j : Int) = t := by omega
        obtain ⟨τ2, q1, q2, q3, q4⟩ := or_step (by omega) hg hok hv hX p3 p4 (by omega)
        refine ⟨τ2, j + 1, Or.inl (by omega), fun N K z => ?_, q2, q3, mf, fun a b h => by rw [q4 a b h.1 h.2.1 (by have := h.2.2; omega), p6 a b h]⟩
        rw [show N + (j + 1) = (N + 1) + j by omega, p2, jt, q1, show ((j + 1 : Nat) : Int) = t + 1 by omega]) ⟨bsF n τ, 0, Or.inl rfl, fun N K z => by rw [l0]; rfl, T0, R0, fr0, fB⟩
  obtain ⟨σ', c1, c2, τ1, j, p1, p2, p3, p4, p5, p6⟩ := R
  have ov : ∀ k, k < n → σ' (34 + k) 14 = τ1 22 k ∧ 0 ≤ τ1 22 k ∧ τ1 22 k ≤ 1000 := fun k hk => by
    have Q := (p4.1 k hk).1
    have := gk k hk
    unfold OQ at Q
    omega
  have z : cN (fun k => τ1 22 k = -1) n = 0 := cN_0 n (fun k hk => by have := (ov k hk).2.1; omega)
  refine ⟨σ', τ1, c1, ?_, ov, p5, p6⟩
  have B := bsM a1.2 h29
  have b29 : bsF n τ 0 29 = (n : Int) := by rw [fB _ _ ⟨by omega, by omega, by omega⟩]; exact h29
  unfold fX7_goOrder
  rw [B]
  generalize hfu : mm_fu = NF; have hNF : 4096 ≤ NF := by rw [← hfu]; exact Nat.le_refl _
  simp (implicitDefEqProofs := false) (maxSteps := 1000000) (disch := omega) only [b29, ↓mm_lt_s, ↓cl_in, ↓cl_wi, ↓cl_has, ↓cl_isP, mL_le, lit_n, litL_n, mL_mI, mL_neg, mm_cl_s, mI_lt, mI_le, mI_eq, enc_at, enc_wr, enc_cp, mI_neg, mI_add, mI_sub, mI_mul, mI_ix, mm_ck_ok, mm_nz_ok, mm_bo_c, mm_bo_m0, mm_bo_m1, b01, Int.toNat_natCast, Int.reduceToNat, Int.reduceNeg, Int.reduceSub, Int.reduceAdd, Int.reduceMul, Int.reduceLT, Int.reduceLE, Int.reduceEq, ↓reduceIte, not_true, not_false_eq_true, not_true_eq_false, and_self, true_and, and_true, false_and, and_false, Decidable.not_not, stv1, stv2, stv3, stv4]
  obtain ⟨N, hN⟩ : ∃ N, NF = (N + 1) + j := ⟨NF - 1 - j, by omega⟩
  rw [hN, p2, z, cast0, mm_lk_s, fX7_goOrder_L11]
  simp (implicitDefEqProofs := false) (maxSteps := 1000000) (disch := omega) only [↓mm_lt_s, ↓cl_in, ↓cl_wi, ↓cl_has, ↓cl_isP, mL_le, lit_n, litL_n, mL_mI, mL_neg, mm_cl_s, mI_lt, mI_le, mI_eq, enc_at, enc_wr, enc_cp, mI_neg, mI_add, mI_sub, mI_mul, mI_ix, mm_ck_ok, mm_nz_ok, mm_bo_c, mm_bo_m0, mm_bo_m1, b01, Int.toNat_natCast, Int.reduceToNat, Int.reduceNeg, Int.reduceSub, Int.reduceAdd, Int.reduceMul, Int.reduceLT, Int.reduceLE, Int.reduceEq, ↓reduceIte, not_true, not_false_eq_true, not_true_eq_false, and_self, true_and, and_true, false_and, and_false, Decidable.not_not, stv1, stv2, stv3, stv4]
