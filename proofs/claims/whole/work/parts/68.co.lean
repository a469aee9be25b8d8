/-! soonest: class and reference -/
def CQ (x : Nat → Int) (y7 y8 e u : Int) : Prop := (x 8 = 1 ∧ x 9 = 0 ∧ y8 = 0 ∧ e = -1 ∧ x 12 = y7 ∧ x 13 = x 2 ∧ u ≤ y7 ∧ y7 ≤ 400) ∨ (x 8 = 2 ∧ x 9 = 0 ∧ y8 = 1 ∧ e = -1) ∨ (x 8 = 4 ∧ x 9 = 1 ∧ y8 = 1 ∧ x 14 = e ∧ 0 ≤ e ∧ e ≤ 1000)
theorem CQ.walk {x y : Nat → Int} {e t P : Int} (h : CQ x (y 7) (y 8) e (t - 1)) (h7 : 0 ≤ y 7 ∧ y 7 ≤ 440) (h2 : 1 ≤ x 2 ∧ x 2 ≤ 40) (hP : P ≤ 400) : CQ (wlkR P x) (gsC P (x 2) y 7) (gsC P (x 2) y 8) e t ∧ (0 ≤ gsC P (x 2) y 7 ∧ gsC P (x 2) y 7 ≤ 440) := by
  rcases h with ⟨a1, a2, a3, a4, a5, a6, a7, a8⟩ | ⟨a1, a2, a3, a4⟩ | ⟨a1, a2, a3, a4, a5, a6⟩
  · have e7 : gsC P (x 2) y 7 = y 7 + x 2 := by unfold gsC; rw [if_pos a3, if_pos rfl]
    have e8 : gsC P (x 2) y 8 = (if y 7 + x 2 < P then 0 else 1) := by unfold gsC; rw [if_pos a3, if_neg (by decide), if_pos rfl]
    have w8 : wlkR P x 8 = (if x 12 + x 13 < P then 1 else 2) := by unfold wlkR; rw [if_pos a1, if_neg (by decide), if_pos rfl]
    have w12 : wlkR P x 12 = x 12 + x 13 := by unfold wlkR; rw [if_pos a1, if_pos rfl]
    have wo : ∀ b, b ≠ 12 → b ≠ 8 → wlkR P x b = x b := fun b n1 n2 => by unfold wlkR; rw [if_pos a1, if_neg n1, if_neg n2]
    rw [e7, e8]
    refine ⟨?_, by omega⟩
    unfold CQ
    rw [w8, w12, wo 9 (by decide) (by decide), wo 13 (by decide) (by decide), wo 2 (by decide) (by decide), wo 14 (by decide) (by decide), a5, a6]
    by_cases c : y 7 + x 2 < P
    · rw [if_pos c, if_pos c]
      exact Or.inl ⟨rfl, a2, rfl, a4, rfl, rfl, by omega, by omega⟩
    · rw [if_neg c, if_neg c]
      exact Or.inr (Or.inl ⟨rfl, a2, rfl, a4⟩)
  · have w : wlkR P x = x := funext fun b => by unfold wlkR; rw [if_neg (by omega)]
    have g : ∀ a, gsC P (x 2) y a = y a := fun a => by unfold gsC; rw [if_neg (by omega)]
    rw [w, g, g]
    exact ⟨Or.inr (Or.inl ⟨a1, a2, a3, a4⟩), h7⟩
  · have w : wlkR P x = x := funext fun b => by unfold wlkR; rw [if_neg (by omega)]
    have g : ∀ a, gsC P (x 2) y a = y a := fun a => by unfold gsC; rw [if_neg (by omega)]
    rw [w, g, g]
    exact ⟨Or.inr (Or.inr ⟨a1, a2, a3, a4, a5, a6⟩), h7⟩
/-- who steps off -/
theorem co_stp {σ τ : IM} {n k : Nat} {r : Nat → Nat} {t : Int} (hQ : ∀ k, k < n → CQ (σ (34 + k)) (τ 7 k) (τ 8 k) (τ 22 k) t) (hr : ∀ k, k < n → τ 20 k = (r k : Int)) (h7 : ∀ k, k < n → ∀ q, q < n → (bitZ (σ (34 + k) 7) q = 1 ↔ r q = r k)) (hE : ∀ k q, k < n → q < n → r k = r q → (τ 22 k = -1 ↔ τ 22 q = -1)) (hk : k < n) : (stp n (0 : Nat) σ k ↔ actP τ n (r k : Int)) ∧ (actP τ n (r k : Int) → τ 22 k = -1 ∧ τ 8 k = 1) := by
  have B : actP τ n (r k : Int) → τ 22 k = -1 ∧ τ 8 k = 1 := fun ⟨x1, x2⟩ => by
    rw [rdF_iff] at x1
    rw [alF_iff] at x2
    rcases x1 with x1 | ⟨q, q1, q2, q3⟩
    · omega
    · rw [hr q (by omega)] at q2
      have eq : τ 22 q = -1 := by
        have := hQ q (by omega)
        unfold CQ at this
        omega
      exact ⟨(hE k q hk (by omega) (by omega)).2 eq, x2.2 k (by omega) (by omega) (hr k hk)⟩
  refine ⟨⟨fun ⟨⟨x1, x2⟩, x3⟩ => ?_, fun x => ?_⟩, B⟩
  · have ek : τ 22 k = -1 ∧ τ 8 k = 1 := by
      have := hQ k hk
      unfold CQ at this
      omega
    refine ⟨(rdF_iff n 0 0).2 (Or.inr ⟨k, ⟨by omega, by omega⟩, hr k hk, by omega⟩), (alF_iff n 0 1).2 ⟨rfl, fun q _ q2 q3 => ?_⟩⟩
    rw [hr q (by omega)] at q3
    have Q := hQ q (by omega)
    unfold CQ at Q
    rcases Q with ⟨b1, b2, b3, b4, -⟩ | ⟨b1, b2, b3, b4⟩ | ⟨b1, b2, b3, -⟩
    · exfalso
      have : hv n σ k = 1 := hv_iff.2 ⟨q, by omega, (h7 k hk q (by omega)).2 (by omega), b1, by rw [b2, x2]; rfl⟩
      omega
    · exact b3
    · exact b3
  · obtain ⟨y1, y2⟩ := B x
    have Q := hQ k hk
    unfold CQ at Q
    have x8 : σ (34 + k) 8 = 2 ∧ σ (34 + k) 9 = 0 := by omega
    refine ⟨⟨x8.1, by rw [x8.2]; rfl⟩, ?_⟩
    rcases hv_01 n σ k with a | a
    · exact a
    · exfalso
      obtain ⟨q, q1, q2, q3, q4⟩ := hv_iff.1 a
      have rq := (h7 k hk q q1).1 q2
      have := ((alF_iff n 0 1).1 x.2).2 q (by omega) (by omega) (by rw [hr q q1, rq])
      have Q2 := hQ q q1
      unfold CQ at Q2
      omega
/-- what stays through a day of companies -/
def CT (σ τ : IM) (n : Nat) (w r : Nat → Nat) : Prop := (((1 ≤ n ∧ n ≤ 6) ∧ σ 30 6 = (n : Int)) ∧ σ 30 2 = ((2 ^ n : Nat) : Int) - 1 ∧ (σ 32 0 = τ 2 0 ∧ 0 ≤ τ 2 0 ∧ τ 2 0 ≤ 200) ∧ (σ 32 2 = τ 2 2 ∧ 0 ≤ τ 2 2 ∧ τ 2 2 ≤ 200) ∧ σ 32 3 = 0 ∧ σ 32 5 = 0) ∧ WK τ n w ∧ ∀ k, k < n → (τ 20 k = (r k : Int) ∧ r k < n) ∧ (σ (34 + k) 2 = pcW τ w k) ∧ σ (34 + k) 3 = 1 ∧ σ (34 + k) 5 = (if τ 1 (7 * w k + 2) = 3 then 1 else 0) ∧ σ (34 + k) 6 = (r k : Int) ∧ ∀ q, q < n → (bitZ (σ (34 + k) 7) q = 1 ↔ r q = r k)
/-- what changes -/
def CR (σ τ : IM) (n : Nat) (r : Nat → Nat) (t : Int) : Prop := (∀ k, k < n → CQ (σ (34 + k)) (τ 7 k) (τ 8 k) (τ 22 k) (t - 1) ∧ (0 ≤ τ 7 k ∧ τ 7 k ≤ 440)) ∧ (σ 30 3 = τ 0 23 ∧ 1 ≤ τ 0 23 ∧ τ 0 23 ≤ 400) ∧ (σ 32 1 = τ 0 26 ∧ 0 ≤ τ 0 26 ∧ τ 0 26 ≤ 2) ∧ (τ 0 26 = 2 → σ 33 0 = τ 18 0) ∧ (-1000 ≤ τ 18 0 ∧ τ 18 0 ≤ 1000) ∧ ∀ k q, k < n → q < n → r k = r q → (τ 22 k = -1 ↔ τ 22 q = -1)
theorem CT.cong {σ τ σ' τ' : IM} {n : Nat} {w r : Nat → Nat} (h : CT σ τ n w r) (h1 : ∀ a b, (a = 30 ∧ (b = 2 ∨ b = 6)) ∨ (a = 32) ∨ ((34 ≤ a ∧ a < 34 + n) ∧ b < 8) → σ' a b = σ a b) (h2 : ∀ a b, (a = 0 ∧ b = 29) ∨ a = 1 ∨ a = 2 ∨ a = 19 ∨ a = 20 → τ' a b = τ a b) : CT σ' τ' n w r := by
  obtain ⟨⟨⟨a1, a2⟩, a3, a4, a5, a6, a7⟩, a8, a9⟩ := h
  refine ⟨⟨⟨a1, ?_⟩, ?_, ?_, ?_, ?_, ?_⟩, a8.cong (h2 _ _ (by omega)) (fun b => h2 _ _ (by omega)) (fun b => h2 _ _ (by omega)), fun k hk => ?_⟩
  · rw [h1 _ _ (by omega)]; exact a2
  · rw [h1 _ _ (by omega)]; exact a3
  · rw [h1 _ _ (by omega), h2 _ _ (by omega)]; exact a4
  · rw [h1 _ _ (by omega), h2 _ _ (by omega)]; exact a5
  · rw [h1 _ _ (by omega)]; exact a6
  · rw [h1 _ _ (by omega)]; exact a7
  · have e : pcW τ' w k = pcW τ w k := by
      unfold pcW
      rw [h2 _ _ (by omega), h2 _ _ (by omega)]
    rw [h2 20 _ (by omega), h2 1 _ (by omega), e, h1 _ 2 (by omega), h1 _ 3 (by omega), h1 _ 5 (by omega), h1 _ 6 (by omega), h1 _ 7 (by omega)]
    exact a9 k hk
theorem co_step {σ τ : IM} {n : Nat} {w r : Nat → Nat} {t : Int} (ht : 1 ≤ t ∧ t ≤ 999) (hX : XI σ n t) (hT : CT σ τ n w r) (hR : CR σ τ n r t) (hl : 0 < cN (fun k => τ 22 k = -1) n) : ∃ τ' : IM, (∀ (N : Nat) (K : Mm → Aa) (z : Int32 → Int32 → Mm → Aa), mm_lk z (fX7_goCompanies_L11 K) (N + 1) (mI (cN (fun k => τ 22 k = -1) n)) (mI t) (enc τ) = mm_lk z (fX7_goCompanies_L11 K) N (mI (cN (fun k => τ' 22 k = -1) n)) (mI (t + 1)) (enc τ')) ∧ CT (minF t n σ) τ' n w r ∧ CR (minF t n σ) τ' n r (t + 1) ∧ ∀ a b, ¬ ((a = 7 ∨ a = 8 ∨ a = 22) ∧ b < n) → ¬ (a = 18 ∧ b = 0) → ¬ (a = 0 ∧ b = 23) → τ' a b = τ a b := by
  obtain ⟨⟨⟨a1, a2⟩, a3, a4, a5, a6, a7⟩, a8, a9⟩ := id hT
  obtain ⟨b1, b2, b3, b4, b5, b6⟩ := id hR
  have lb : cN (fun k => τ 22 k = -1) n ≤ n := cN_le n
  generalize hτ1 : eachM τ 0 n (fun k => gsC (τ 0 23) (pcW τ w k) (fun a => τ a k)) = τ1
  have k1 : ∀ k, k < n → τ1 7 k = gsC (τ 0 23) (pcW τ w k) (fun a => τ a k) 7 ∧ τ1 8 k = gsC (τ 0 23) (pcW τ w k) (fun a => τ a k) 8 := fun k hk => by
    rw [← hτ1]
    exact ⟨eachM_in (by omega) (by omega) hk, eachM_in (by omega) (by omega) hk⟩
  have k2 : ∀ a b, ¬ ((a = 7 ∨ a = 8) ∧ b < n) → τ1 a b = τ a b := fun a b hab => by
    rw [← hτ1]
    by_cases c : (5 ≤ a ∧ a ≤ 17) ∧ b < n
    · rw [eachM_in c.1 (by omega) c.2]
      unfold gsC
      dsimp only
      split
      · rw [if_neg (by omega), if_neg (by omega)]
      · rfl
    · rw [eachM_ne (by omega)]
  have e22 : ∀ k, k < n → -1 ≤ τ 22 k ∧ τ 22 k ≤ 1000 ∧ (0 ≤ τ 8 k ∧ τ 8 k ≤ 1) := fun k hk => by
    have := (b1 k hk).1
    unfold CQ at this
    omega
  -- after the walk
  have WQ : ∀ k, k < n → CQ (walkF n σ (34 + k)) (τ1 7 k) (τ1 8 k) (τ1 22 k) t ∧ (0 ≤ τ1 7 k ∧ τ1 7 k ≤ 440) := fun k hk => by
    have pr := a8.pc hk
    have x2 := (a9 k hk).2.1
    have Q := CQ.walk (P := τ 0 23) (y := fun a => τ a k) (b1 k hk).1 (b1 k hk).2 (by rw [x2]; exact pr) b2.2.2
    rw [x2] at Q
    rw [walkF_row hk, (k1 k hk).1, (k1 k hk).2, k2 22 _ (by omega), b2.1]
    exact Q
  have w7 : ∀ k, k < n → ∀ b, b < 8 → walkF n σ (34 + k) b = σ (34 + k) b := fun k hk b hb => by
    rw [walkF_row hk]
    unfold wlkR
    split
    · rw [if_neg (by omega), if_neg (by omega)]
    · rfl
  have ST := fun k (hk : k < n) => co_stp (σ := walkF n σ) (τ := τ1) (n := n) (k := k) (r := r) (t := t) (fun k hk => (WQ k hk).1) (fun k hk => by rw [k2 20 _ (by omega)]; exact (a9 k hk).1.1) (fun k hk q hq => by rw [w7 k hk 7 (by omega)]; exact (a9 k hk).2.2.2.2.2 q hq) (fun k q hk hq e => by rw [k2 22 _ (by omega), k2 22 _ (by omega)]; exact b6 k q hk hq e) hk
  have GP : ∀ k, k < n → (gonP τ1 n n k ↔ stp n (0 : Nat) (walkF n σ) k) := fun k hk => by
    have r1 := (a9 k hk).1
    unfold gonP
    rw [k2 20 _ (by omega), r1.1, (ST k hk).1]
    exact ⟨fun x => x.2, fun x => ⟨by omega, x⟩⟩
  obtain ⟨τ', T1, T2, T3, T4, T5⟩ := turnC (n := n) (w := w) (t := t) (left := (cN (fun k => τ 22 k = -1) n : Int)) (τ := τ) ht a8 (by omega) (fun k hk => by
    have := (a9 k hk).1
    have := (b1 k hk).2
    have := e22 k hk
    exact ⟨by omega, by omega, by omega, by omega⟩) b2.2 b3.2 a4.2 a5.2 b5 hτ1.symm
  -- the class's minute
  have mr := fun k (hk : k < n) => minF_qr (t := t) (σ := σ) (k := k) a1.2 a3 a6 a7 (by omega) (fun k hk => by
    have := (b1 k hk).1
    unfold CQ at this
    omega) hk
  have mn := fun a b (h : ¬ (34 ≤ a ∧ a < 34 + n)) => minF_qn (t := t) (σ := σ) (a := a) (b := b) a1.2 a3 a6 a7 (by omega) (fun k hk => by
    have := (b1 k hk).1
    unfold CQ at this
    omega) h
  have wn : ∀ a b, ¬ (34 ≤ a ∧ a < 34 + n) → walkF n σ a b = σ a b := fun a b => walkF_ne
  -- the counts
  have sp1 := spF_c (m := n) (B := (0 : Nat)) (σ := walkF n σ) (p := fun k => gonP τ1 n n k ∧ τ1 1 (7 * w k + 2) = 3) (fun k hk => by
    rw [GP k hk, w7 k hk 5 (by omega), (a9 k hk).2.2.2.1, k2 1 _ (by omega)]
    by_cases c : τ 1 (7 * w k + 2) = 3
    · rw [if_pos c]
      exact ⟨fun x => ⟨x.1, by decide⟩, fun x => ⟨x.1, c⟩⟩
    · rw [if_neg c]
      exact ⟨fun x => absurd x.2 c, fun x => absurd rfl x.2⟩) n 0 0 (by omega)
  have sp2 : spF n (0 : Nat) (walkF n σ) n 0 0 = spC τ1 w n n := by
    have z : cN (fun k => gonP τ1 n n k ∧ τ1 1 (7 * w k + 2) = 3) 0 = 0 := rfl
    unfold spC
    omega
  have pc1 : popc (mskF n (0 : Nat) (walkF n σ) n 0 0) = plC τ1 w n n := popc_msk (m := n) (n := n) (B := (0 : Nat)) (σ := walkF n σ) (p := fun c => pnP τ1 w n c) (by omega) (fun k hk => by
    rw [w7 k hk 6 (by omega), (a9 k hk).2.2.2.2.1]
    have := (a9 k hk).1
    omega) (fun c hc => by
    unfold pnP
    constructor
    · rintro ⟨x1, x2⟩
      rcases (onF_iff n 0 0).1 x2 with y | ⟨k, y1, y2, y3⟩
      · omega
      · have hk : k < n := by omega
        rw [k2 20 _ (by omega), (a9 k hk).1.1] at y2
        rw [k2 1 _ (by omega)] at y3
        refine ⟨k, hk, ⟨(ST k hk).1.2 (by rw [y2]; exact x1), ?_⟩, ?_⟩
        · rw [w7 k hk 5 (by omega), (a9 k hk).2.2.2.1, if_neg y3]
        · rw [w7 k hk 6 (by omega), (a9 k hk).2.2.2.2.1, y2]
    · rintro ⟨k, hk, ⟨y1, y2⟩, y3⟩
      rw [w7 k hk 6 (by omega), (a9 k hk).2.2.2.2.1] at y3
      rw [w7 k hk 5 (by omega), (a9 k hk).2.2.2.1] at y2
      have A := (ST k hk).1.1 y1
      rw [y3] at A
      refine ⟨A, (onF_iff n 0 0).2 (Or.inr ⟨k, ⟨by omega, by omega⟩, ?_, ?_⟩)⟩
      · rw [k2 20 _ (by omega), (a9 k hk).1.1, y3]
      · rw [k2 1 _ (by omega)]
        intro c
        rw [if_pos c] at y2
        exact absurd y2 (by decide))
  have n1 := nF_0 (m := n) (b := 1) (t := t) (σ := walkF n σ) (fun k hk x => by
    have Q := (WQ k hk).1
    unfold CQ at Q
    have := x.1
    omega)
  have s33 : walkF n σ 33 0 = σ 33 0 := wn _ _ (by omega)
  have s321 : walkF n σ 32 1 = τ 0 26 := by rw [wn _ _ (by omega)]; exact b3.1
  have s322 : walkF n σ 32 2 = τ 2 2 := by rw [wn _ _ (by omega)]; exact a5.1
  have nf : nF n t 0 (walkF n σ) = cntV (plC τ1 w n n : Int) t (τ 18 0) (τ 0 26) (τ 2 2) + (spC τ1 w n n : Int) := by
    unfold nF
    rw [sp2, pc1, s33, s321, s322, cntV_eq (l := σ 33 0) (l' := τ 18 0) b4]
    omega
  have nb : 0 ≤ nF n t 0 (walkF n σ) ∧ nF n t 0 (walkF n σ) ≤ 20 := nF_rng (by omega)
  have mm : 0 ≤ τ 2 0 * nF n t 0 (walkF n σ) := Int.mul_nonneg a4.2.1 nb.1
  rw [← nf] at T4
  -- the rows
  have rowQ : ∀ k, k < n → CQ (minF t n σ (34 + k)) (τ' 7 k) (τ' 8 k) (τ' 22 k) t ∧ (0 ≤ τ' 7 k ∧ τ' 7 k ≤ 440) := fun k hk => by
    obtain ⟨t7, t8, t22⟩ := T2 k hk
    obtain ⟨Q, Q7⟩ := WQ k hk
    rw [t7, t8, t22]
    refine ⟨?_, Q7⟩
    have x10 := (hX.2 k hk).2.2.2.1
    have hx3 := (a9 k hk).2.2.1
    rw [mr k hk]
    rw [walkF_row hk] at Q
    generalize hx : wlkR (σ 30 3) (σ (34 + k)) = x at *
    have xs : x 10 = σ (34 + k) 10 ∧ x 3 = 1 := by
      rw [← hx]
      unfold wlkR
      constructor
      · split
        · rw [if_neg (by omega), if_neg (by omega)]
        · rfl
      · split
        · rw [if_neg (by omega), if_neg (by omega)]; exact hx3
        · exact hx3
    rw [k2 22 _ (by omega)] at Q
    have noQ : ∀ y : Nat → Int, y 8 ≠ 0 → stQ t y = y := fun y hy => by
      unfold stQ
      rw [if_neg (fun z => hy z.1)]
    by_cases g : gonP τ1 n n k
    · have s := (GP k hk).1 g
      have s8 := s.1.1
      have sh := s.2
      rw [walkF_row hk, hx] at s8
      have oR : offR t (hv n (walkF n σ) k) x = comeR t x := funext fun b => by
        unfold offR
        rw [if_pos s8, if_neg (by omega)]
      have c8 : comeR t x 8 = 4 := by
        unfold comeR
        rw [if_neg (by decide), if_neg (by decide), if_neg (by omega), if_pos rfl]
      have c9 : comeR t x 9 = 1 - x 9 := by
        unfold comeR
        rw [if_neg (by decide), if_pos rfl]
      have c14 : comeR t x 14 = t := by
        unfold comeR
        rw [if_neg (by decide), if_neg (by decide), if_neg (by omega), if_neg (by decide), if_pos rfl]
      rw [oR, noQ _ (by rw [c8]; decide), if_pos g]
      unfold CQ at Q ⊢
      rw [c8, c9, c14]
      exact Or.inr (Or.inr ⟨rfl, by omega, by omega, rfl, by omega, by omega⟩)
    · rw [if_neg g]
      by_cases s8 : x 8 = 2
      · have hh : hv n (walkF n σ) k = 1 := by
          rcases hv_01 n (walkF n σ) k with a | a
          · exact absurd ((GP k hk).2 ⟨⟨by rw [walkF_row hk, hx]; exact s8, by
              rw [walkF_row hk, hx]
              unfold CQ at Q
              show x 9 = 0
              omega⟩, a⟩) g
          · exact a
        have oR : ∀ b, b ≠ 16 → offR t (hv n (walkF n σ) k) x b = x b := fun b hb => by
          unfold offR
          rw [if_pos s8, if_pos hh, if_neg hb]
        rw [noQ _ (by rw [oR 8 (by decide), s8]; decide)]
        unfold CQ at Q ⊢
        rw [oR 8 (by decide), oR 9 (by decide), oR 12 (by decide), oR 13 (by decide), oR 2 (by decide), oR 14 (by decide)]
        exact Q
      · rw [offR_no s8, noQ _ (by unfold CQ at Q; omega)]
        exact Q
  refine ⟨τ', fun N K z => ?_, ?_, ?_, T5⟩
  · rw [T1]
    have le : (cN (fun k => τ 22 k = -1) n : Int) - (lfC τ1 n n : Int) = (cN (fun k => τ' 22 k = -1) n : Int) := by
      have := cN_add (p := fun k => τ' 22 k = -1) (q := fun k => gonP τ1 n n k) (r := fun k => τ 22 k = -1) n (fun k hk => by
        have t22 := (T2 k hk).2.2
        have A := (ST k hk)
        by_cases g : gonP τ1 n n k
        · rw [if_pos g] at t22
          have e1 := (A.2 (A.1.1 ((GP k hk).1 g))).1
          rw [k2 22 _ (by omega)] at e1
          exact ⟨⟨fun _ => Or.inr g, fun _ => e1⟩, fun x => by have := x.1; omega⟩
        · rw [if_neg g] at t22
          rw [t22]
          exact ⟨⟨Or.inl, fun x => x.elim id (fun y => absurd y g)⟩, fun x => g x.2⟩)
      unfold lfC
      omega
    rw [le]
  · refine hT.cong (fun a b h => ?_) (fun a b h => T5 a b (by omega) (by omega) (by omega))
    by_cases c : 34 ≤ a ∧ a < 34 + n
    · obtain ⟨p, rfl⟩ : ∃ p, a = 34 + p := ⟨a - 34, by omega⟩
      exact minF_lo (by omega) (by omega)
    · exact minF_ne c (by omega) (by omega)
  · refine ⟨fun k hk => by rw [show t + 1 - 1 = t by omega]; exact rowQ k hk, ?_, ?_, fun e26 => ?_, ?_, fun k q hk hq e => ?_⟩
    · rw [mn 30 3 (by omega), offF_3, n1.1, wn 30 3 (by omega), wn 32 0 (by omega), b2.1, a4.1, T4, Int.add_zero]
      refine ⟨rfl, ?_⟩
      split <;> omega
    · rw [minF_ne (by omega) (by omega) (by omega), T5 _ _ (by omega) (by omega) (by omega)]; exact b3
    · rw [T5 _ _ (by omega) (by omega) (by omega)] at e26
      rw [mn 33 0 (by omega), offF_33 (by omega), T3]
      unfold lcF
      rw [pc1, s33, s321, s322, b4 e26, e26]
      by_cases c : (plC τ1 w n n : Int) = 0
      · rw [if_neg (fun x => x.1 (Or.inl c)), if_neg (fun x => x.2.1 c)]
      · by_cases d : t - τ 2 2 ≤ τ 18 0
        · rw [if_neg (fun x => x.2 ⟨rfl, d⟩), if_neg (fun x => x.2.2 d)]
        · rw [if_pos ⟨fun x => x.elim c (by decide), fun x => d x.2⟩, if_pos ⟨rfl, c, d⟩]
    · rw [T3]
      split <;> omega
    · rw [(T2 k hk).2.2, (T2 q hq).2.2]
      have ek : gonP τ1 n n k ↔ gonP τ1 n n q := by
        unfold gonP
        rw [k2 20 _ (by omega), k2 20 _ (by omega), (a9 k hk).1.1, (a9 q hq).1.1, e]
      by_cases g : gonP τ1 n n k
      · rw [if_pos g, if_pos (ek.1 g)]
      · rw [if_neg g, if_neg (fun x => g (ek.2 x))]
        exact b6 k q hk hq e
