/-! soonest: a day of companies -/
def bsC (τ : IM) (i n : Nat) : IM := fun a b => if (a = 7 ∨ a = 8) ∧ i ≤ b ∧ b < n then 0 else if a = 22 ∧ i ≤ b ∧ b < n then -1 else τ a b
theorem bsM_L {K : Mm → Aa} {z : Int32 → Mm → Aa} {n : Nat} (hn : n ≤ 6) : ∀ (d i N : Nat) (τ : IM), i + d = n → d < N → τ 0 29 = (n : Int) → mm_lk z (fX7_beginSome_L29 K) N (mI i) (enc τ) = K (enc (bsC τ i n))
  | d, i, 0, τ, _, h, _ => absurd h (Nat.not_lt_zero d)
  | 0, i, N + 1, τ, h, _, h29 => by
    have e : bsC τ i n = τ := by
      funext a b
      unfold bsC
      rw [if_neg (by omega), if_neg (by omega)]
    rw [e, mm_lk_s, fX7_beginSome_L29]
    simp (implicitDefEqProofs := false) (maxSteps := 1000000) (disch := omega) only [h29, ↓mm_lt_s, ↓cl_in, ↓cl_wi, ↓cl_has, ↓cl_isP, mL_le, lit_n, litL_n, mL_mI, mL_neg, mm_cl_s, mI_lt, mI_le, mI_eq, enc_at, enc_wr, enc_cp, mI_neg, mI_add, mI_sub, mI_mul, mI_ix, mm_ck_ok, mm_nz_ok, mm_bo_c, mm_bo_m0, mm_bo_m1, b01, Int.toNat_natCast, Int.reduceToNat, Int.reduceNeg, Int.reduceSub, Int.reduceAdd, Int.reduceMul, Int.reduceLT, Int.reduceLE, Int.reduceEq, ↓reduceIte, not_true, not_false_eq_true, not_true_eq_false, and_self, true_and, and_true, false_and, and_false, Decidable.not_not, stv1, stv2, stv3, stv4]
    repeat (first | rw [if_pos (by omega)] | rw [if_neg (by omega)])
  | d + 1, i, N + 1, τ, h, h2, h29 => by
    have c1 : ¬ (n : Int) ≤ (i : Int) := by omega
    have e : bsC (iw (iw (iw τ 7 i 0) 8 i 0) 22 i (-1)) (i + 1) n = bsC τ i n := by
      funext a b
      unfold bsC
      by_cases x : (a = 7 ∨ a = 8) ∧ i ≤ b ∧ b < n
      · rw [if_pos x]
        by_cases y : b = i
        · rw [if_neg (by omega), if_neg (by omega), iw_ne (by omega)]
          by_cases a8 : a = 8
          · rw [iw_eq a8 y]
          · rw [iw_ne (by omega), iw_eq (by omega) y]
        · rw [if_pos (by omega)]
      · rw [if_neg x, if_neg (by omega)]
        by_cases u : a = 22 ∧ i ≤ b ∧ b < n
        · rw [if_pos u]
          by_cases y : b = i
          · rw [if_neg (by omega), iw_eq u.1 y]
          · rw [if_pos (by omega)]
        · rw [if_neg u, if_neg (by omega), iw_ne (by omega), iw_ne (by omega), iw_ne (by omega)]
    rw [← e, ← bsM_L (K := K) (z := z) hn d (i + 1) N _ (by omega) (by omega) (by rw [iw_ne (by omega), iw_ne (by omega), iw_ne (by omega)]; exact h29), mm_lk_s, fX7_beginSome_L29]
    simp (implicitDefEqProofs := false) (maxSteps := 1000000) (disch := omega) only [h29, c1, cast_s, ↓mm_lt_s, ↓cl_in, ↓cl_wi, ↓cl_has, ↓cl_isP, mL_le, lit_n, litL_n, mL_mI, mL_neg, mm_cl_s, mI_lt, mI_le, mI_eq, enc_at, enc_wr, enc_cp, mI_neg, mI_add, mI_sub, mI_mul, mI_ix, mm_ck_ok, mm_nz_ok, mm_bo_c, mm_bo_m0, mm_bo_m1, b01, Int.toNat_natCast, Int.reduceToNat, Int.reduceNeg, Int.reduceSub, Int.reduceAdd, Int.reduceMul, Int.reduceLT, Int.reduceLE, Int.reduceEq, ↓reduceIte, not_true, not_false_eq_true, not_true_eq_false, and_self, true_and, and_true, false_and, and_false, Decidable.not_not, stv1, stv2, stv3, stv4]
def bsF (n : Nat) (τ : IM) : IM := bsC (iw (iw (iw τ 0 23 (τ 0 3)) 0 26 (τ 2 1)) 18 0 (-1000)) 0 n
theorem bsM {n : Nat} {τ : IM} (hn : n ≤ 6) (h29 : τ 0 29 = (n : Int)) : fX7_beginSome (enc τ) = some (mI 0, enc (bsF n τ)) := by
  have e1 : iw τ 0 23 (τ 0 3) 2 1 = τ 2 1 := iw_ne (by omega)
  unfold fX7_beginSome
  generalize hfu : mm_fu = NF; have hNF : 4096 ≤ NF := by rw [← hfu]; exact Nat.le_refl _
  simp (implicitDefEqProofs := false) (maxSteps := 1000000) (disch := omega) only [e1, ↓mm_lt_s, ↓cl_in, ↓cl_wi, ↓cl_has, ↓cl_isP, mL_le, lit_n, litL_n, mL_mI, mL_neg, mm_cl_s, mI_lt, mI_le, mI_eq, enc_at, enc_wr, enc_cp, mI_neg, mI_add, mI_sub, mI_mul, mI_ix, mm_ck_ok, mm_nz_ok, mm_bo_c, mm_bo_m0, mm_bo_m1, b01, Int.toNat_natCast, Int.reduceToNat, Int.reduceNeg, Int.reduceSub, Int.reduceAdd, Int.reduceMul, Int.reduceLT, Int.reduceLE, Int.reduceEq, ↓reduceIte, not_true, not_false_eq_true, not_true_eq_false, and_self, true_and, and_true, false_and, and_false, Decidable.not_not, stv1, stv2, stv3, stv4]
  have E := bsM_L (K := fun m5 => some (mI 0, m5)) (z := fun _ _ => none) hn n 0 NF (iw (iw (iw τ 0 23 (τ 0 3)) 0 26 (τ 2 1)) 18 0 (-1000)) (by omega) (by omega) (by rw [iw_ne (by omega), iw_ne (by omega), iw_ne (by omega)]; exact h29)
  rw [cast0] at E
  exact E
theorem bsF_ne {n a b : Nat} {τ : IM} (h : ¬ ((a = 7 ∨ a = 8 ∨ a = 22) ∧ b < n)) (h1 : ¬ (a = 18 ∧ b = 0)) (h2 : ¬ (a = 0 ∧ (b = 23 ∨ b = 26))) : bsF n τ a b = τ a b := by
  unfold bsF bsC
  rw [if_neg (by omega), if_neg (by omega), iw_ne (by omega), iw_ne (by omega), iw_ne (by omega)]
theorem bsF_g {n : Nat} {τ : IM} : bsF n τ 0 23 = τ 0 3 ∧ bsF n τ 0 26 = τ 2 1 ∧ bsF n τ 18 0 = -1000 ∧ ∀ k, k < n → bsF n τ 7 k = 0 ∧ bsF n τ 8 k = 0 ∧ bsF n τ 22 k = -1 := by
  unfold bsF bsC
  refine ⟨?_, ?_, ?_, fun k hk => ⟨?_, ?_, ?_⟩⟩
  · rw [if_neg (by omega), if_neg (by omega), iw_ne (by omega), iw_ne (by omega), iw_eq rfl rfl]
  · rw [if_neg (by omega), if_neg (by omega), iw_ne (by omega), iw_eq rfl rfl]
  · rw [if_neg (by omega), if_neg (by omega), iw_eq rfl rfl]
  · rw [if_pos (by omega)]
  · rw [if_pos (by omega)]
  · rw [if_neg (by omega), if_pos (by omega)]
/-- nobody at the end: nothing counts -/
theorem q_none {n : Nat} {t : Int} {σ : IM} (h : ∀ k, k < n → walkF n σ (34 + k) 8 ≠ 2) : nF n t 0 (walkF n σ) = 0 ∧ nF n t 1 (walkF n σ) = 0 ∧ lcF n t 0 (walkF n σ) = σ 33 0 := by
  have a := nF_0 (m := n) (b := 0) (t := t) (σ := walkF n σ) (fun k hk x => h k hk x.1.1)
  have b := nF_0 (m := n) (b := 1) (t := t) (σ := walkF n σ) (fun k hk x => h k hk x.1.1)
  exact ⟨a.1, b.1, by rw [a.2, walkF_ne (by omega)]⟩
theorem co_idle {σ τ : IM} {n : Nat} {w r : Nat → Nat} {t : Int} (hT : CT σ τ n w r) (hR : CR σ τ n r t) (hl : cN (fun k => τ 22 k = -1) n = 0) : CT (minF t n σ) τ n w r ∧ CR (minF t n σ) τ n r (t + 1) := by
  obtain ⟨⟨⟨a1, a2⟩, a3, a4, a5, a6, a7⟩, a8, a9⟩ := id hT
  obtain ⟨b1, b2, b3, b4, b5, b6⟩ := id hR
  have ov : ∀ k, k < n → σ (34 + k) 8 = 4 ∧ σ (34 + k) 9 = 1 ∧ τ 8 k = 1 ∧ σ (34 + k) 14 = τ 22 k ∧ 0 ≤ τ 22 k ∧ τ 22 k ≤ 1000 := fun k hk => by
    have := cN_none n hl k hk
    have Q := (b1 k hk).1
    unfold CQ at Q
    omega
  have wl : ∀ k, k < n → wlkR (σ 30 3) (σ (34 + k)) = σ (34 + k) := fun k hk => funext fun b => by
    unfold wlkR
    rw [if_neg (by have := (ov k hk).1; omega)]
  have mr := fun k (hk : k < n) => minF_qr (t := t) (σ := σ) (k := k) a1.2 a3 a6 a7 (by omega) (fun k hk => by have := (ov k hk).1; omega) hk
  have mn := fun a b (h : ¬ (34 ≤ a ∧ a < 34 + n)) => minF_qn (t := t) (σ := σ) (a := a) (b := b) a1.2 a3 a6 a7 (by omega) (fun k hk => by have := (ov k hk).1; omega) h
  have row : ∀ k, k < n → minF t n σ (34 + k) = σ (34 + k) := fun k hk => by
    have := (ov k hk).1
    rw [mr k hk, wl k hk, offR_no (by omega)]
    unfold stQ
    rw [if_neg (by omega)]
  obtain ⟨z0, z1, z2⟩ := q_none (t := t) (σ := σ) (n := n) (fun k hk => by rw [walkF_row hk, wl k hk]; have := (ov k hk).1; omega)
  have wn : ∀ a b, ¬ (34 ≤ a ∧ a < 34 + n) → walkF n σ a b = σ a b := fun a b => walkF_ne
  refine ⟨hT.cong (fun a b h => ?_) (fun _ _ _ => rfl), fun k hk => ?_, ?_, ?_, fun e => ?_, b5, b6⟩
  · by_cases c : 34 ≤ a ∧ a < 34 + n
    · obtain ⟨p, rfl⟩ : ∃ p, a = 34 + p := ⟨a - 34, by omega⟩
      exact minF_lo (by omega) (by omega)
    · exact minF_ne c (by omega) (by omega)
  · rw [row k hk]
    exact ⟨Or.inr (Or.inr (ov k hk)), (b1 k hk).2⟩
  · rw [mn 30 3 (by omega), offF_3, z0, z1, wn 30 3 (by omega), show (0 : Int) + 0 = 0 from rfl, Int.mul_zero, Int.add_zero]
    by_cases c : σ 30 3 < 400
    · rw [if_pos c]; exact b2
    · rw [if_neg c]; omega
  · rw [minF_ne (by omega) (by omega) (by omega)]; exact b3
  · rw [mn 33 0 (by omega), offF_33 (by omega), z2]; exact b4 e
/-- cells that a day of some leaves, in the reference -/
def frS (n a b : Nat) : Prop := ¬ ((a = 7 ∨ a = 8 ∨ a = 22) ∧ b < n) ∧ ¬ (a = 18 ∧ b = 0) ∧ ¬ (a = 0 ∧ (b = 23 ∨ b = 26))
theorem dayCo {σ τ : IM} {n : Nat} {w r : Nat → Nat} (hLD : LD σ n) (hT : CT σ τ n w r) (h01 : ∀ k, k < n → σ (34 + k) 0 = 0 ∧ σ (34 + k) 1 = 0) (h7 : σ 30 7 = τ 0 3) (h1 : σ 32 1 = τ 2 1 ∧ 0 ≤ τ 2 1 ∧ τ 2 1 ≤ 2) : ∃ σ' τ' : IM, fX0_run (mI 999) (enc σ) = some (mI 0, enc σ') ∧ fX7_goCompanies (enc τ) = some (mI 0, enc τ') ∧ (∀ k, k < n → σ' (34 + k) 14 = τ' 22 k ∧ 0 ≤ τ' 22 k ∧ τ' 22 k ≤ 1000) ∧ (∀ a b, frX n a b → σ' a b = σ a b) ∧ (∀ a b, frS n a b → τ' a b = τ a b) := by
  obtain ⟨⟨⟨a1, a2⟩, a3, a4, a5, a6, a7⟩, a8, a9⟩ := id hT
  have h29 := a8.1.1
  obtain ⟨g1, g2, g3, g4⟩ := bsF_g (n := n) (τ := τ)
  have fB : ∀ a b, frS n a b → bsF n τ a b = τ a b := fun a b h => bsF_ne h.1 h.2.1 h.2.2
  have l0 : cN (fun k => bsF n τ 22 k = -1) n = n := cN_all n (fun k hk => (g4 k hk).2.2)
  have R := runX (P := fun t σ1 => (t = 0 ∧ σ1 = beginF n σ) ∨ (1 ≤ t ∧ HI σ1 n ∧ ∃ (τ1 : IM) (j : Nat), ((j : Int) + 1 = t ∨ (cN (fun k => τ1 22 k = -1) n = 0 ∧ (j : Int) + 1 ≤ t)) ∧ (∀ (N : Nat) (K : Mm → Aa) (z : Int32 → Int32 → Mm → Aa), mm_lk z (fX7_goCompanies_L11 K) (N + j) (mI n) (mI 1) (enc (bsF n τ)) = mm_lk z (fX7_goCompanies_L11 K) N (mI (cN (fun k => τ1 22 k = -1) n)) (mI ((j : Int) + 1)) (enc τ1)) ∧ CT σ1 τ1 n w r ∧ CR σ1 τ1 n r t ∧ (∀ a b, frX n a b → σ1 a b = σ a b) ∧ (∀ a b, frS n a b → τ1 a b = τ a b))) (last := 999) (by omega) (by omega) hLD (fun t σ1 ht1 ht2 hX hP => by
      have M := minX (m := n) (t := t) (σ := σ1) (by omega) hX
      refine Or.inr ⟨by omega, M.2.2, ?_⟩
      rcases hP with ⟨t0, e0⟩ | ⟨t1, hH, τ1, j, p1, p2, p3, p4, p5, p6⟩
      · subst t0
        subst e0
        obtain ⟨d1, d2, d3, d4, d5⟩ := beginF_g (m := n) (σ := σ)
        have fr : ∀ a b, frX n a b → beginF n σ a b = σ a b := fun a b h => beginF_fr h
        have f30 : ∀ b, b ≠ 3 → b ≠ 4 → b ≠ 5 → beginF n σ 30 b = σ 30 b := fun b n1 n2 n3 => fr _ _ ⟨by omega, by omega, by omega⟩
        have f32 : ∀ b, beginF n σ 32 b = σ 32 b := fun b => fr _ _ ⟨by omega, by omega, by omega⟩
        have bx : ∀ k, k < n → beginF n σ (34 + k) = begR (σ (34 + k)) := fun k hk => beginF_row hk
        have wl : ∀ k, k < n → wlkR (beginF n σ 30 3) (beginF n σ (34 + k)) = begR (σ (34 + k)) := fun k hk => by
          rw [bx k hk]
          funext b
          unfold wlkR
          rw [if_neg (show ¬ begR (σ (34 + k)) 8 = 1 by show ¬ (0 : Int) = 1; decide)]
        have n8 : ∀ k, k < n → beginF n σ (34 + k) 8 ≠ 3 := fun k hk => by
          rw [bx k hk]
          show (0 : Int) ≠ 3
          decide
        have mr := fun k (hk : k < n) => minF_qr (t := 0) (σ := beginF n σ) (k := k) a1.2 (by rw [f30 _ (by omega) (by omega) (by omega)]; exact a3) (by rw [f32]; exact a6) (by rw [f32]; exact a7) (by rw [d1]; exact hLD.2.1.1) n8 hk
        have mn := fun a b (h : ¬ (34 ≤ a ∧ a < 34 + n)) => minF_qn (t := 0) (σ := beginF n σ) (a := a) (b := b) a1.2 (by rw [f30 _ (by omega) (by omega) (by omega)]; exact a3) (by rw [f32]; exact a6) (by rw [f32]; exact a7) (by rw [d1]; exact hLD.2.1.1) n8 h
        have row : ∀ k, k < n → minF 0 n (beginF n σ) (34 + k) = onR 1 (begR (σ (34 + k))) := fun k hk => by
          rw [mr k hk, wl k hk, offR_no (show ¬ begR (σ (34 + k)) 8 = 2 by show ¬ (0 : Int) = 2; decide)]
          unfold stQ
          rw [if_pos ⟨rfl, (h01 k hk).1⟩]
        obtain ⟨z0, z1, z2⟩ := q_none (t := 0) (σ := beginF n σ) (n := n) (fun k hk => by
          rw [walkF_row hk, wl k hk]
          show (0 : Int) ≠ 2
          decide)
        have wn : ∀ a b, ¬ (34 ≤ a ∧ a < 34 + n) → walkF n (beginF n σ) a b = beginF n σ a b := fun a b => walkF_ne
        have mf : ∀ a b, frX n a b → minF 0 n (beginF n σ) a b = σ a b := fun a b h => by rw [minF_fr h, fr a b h]
        refine ⟨bsF n τ, 0, Or.inl (by omega), fun N K z => by rw [l0]; rfl, ?_, ⟨fun k hk => ?_, ?_, ?_, fun _ => ?_, by rw [g3]; omega, fun k q hk hq _ => by rw [(g4 k hk).2.2, (g4 q hq).2.2]⟩, mf, fB⟩
        · exact hT.cong (fun a b h => mf a b ⟨by omega, by omega, by omega⟩) (fun a b h => fB a b ⟨by omega, by omega, by omega⟩)
        · rw [row k hk, (g4 k hk).1, (g4 k hk).2.1, (g4 k hk).2.2]
          refine ⟨Or.inl ⟨rfl, ?_, rfl, rfl, rfl, rfl, by omega, by omega⟩, by omega⟩
          show σ (34 + k) 1 = 0
          exact (h01 k hk).2
        · rw [mn 30 3 (by omega), offF_3, z0, z1, wn 30 3 (by omega), show (0 : Int) + 0 = 0 from rfl, Int.mul_zero, Int.add_zero, d1, g1, h7]
          have := hLD.2.1
          by_cases c : τ 0 3 < 400
          · rw [if_pos c]; omega
          · rw [if_neg c]; omega
        · rw [mf 32 1 ⟨by omega, by omega, by omega⟩, g2]; exact h1
        · rw [mn 33 0 (by omega), offF_33 (by omega), z2, d4, g3]
      · have mf : ∀ a b, frX n a b → minF t n σ1 a b = σ a b := fun a b h => by rw [minF_fr h, p5 a b h]
        by_cases z : cN (fun k => τ1 22 k = -1) n = 0
        · obtain ⟨i1, i2⟩ := co_idle p3 p4 z
          exact ⟨τ1, j, Or.inr ⟨z, by omega⟩, p2, i1, i2, mf, p6⟩
        · have jt : (j : Int) + 1 = t := by omega
          obtain ⟨τ2, q1, q2, q3, q4⟩ := co_step (by omega) hX p3 p4 (by omega)
          refine ⟨τ2, j + 1, Or.inl (by omega), fun N K z => ?_, q2, q3, mf, fun a b h => by rw [q4 a b h.1 h.2.1 (by have := h.2.2; omega), p6 a b h]⟩
          rw [show N + (j + 1) = (N + 1) + j by omega, p2, jt, q1, show ((j + 1 : Nat) : Int) + 1 = t + 1 by omega]) (Or.inl ⟨rfl, rfl⟩)
  obtain ⟨σ', c1, c2, c3⟩ := R
  rcases c3 with ⟨t0, -⟩ | ⟨-, hH, τ1, j, p1, p2, p3, p4, p5, p6⟩
  · omega
  · have no1 : ∀ k, k < n → σ' (34 + k) 8 ≠ 1 := fun k hk e => by
      have Q := (p4.1 k hk).1
      unfold CQ at Q
      omega
    have no2 : ∀ k, k < n → σ' (34 + k) 8 ≠ 2 := fun k hk e => by
      obtain ⟨q, q1, -, q2, -⟩ := hv_iff.1 (hH k hk e)
      exact no1 q q1 q2
    have ov : ∀ k, k < n → σ' (34 + k) 14 = τ1 22 k ∧ 0 ≤ τ1 22 k ∧ τ1 22 k ≤ 1000 := fun k hk => by
      have Q := (p4.1 k hk).1
      have := no1 k hk
      have := no2 k hk
      unfold CQ at Q
      omega
    have z : cN (fun k => τ1 22 k = -1) n = 0 := cN_0 n (fun k hk => by have := (ov k hk).2.1; omega)
    refine ⟨σ', τ1, c1, ?_, ov, p5, p6⟩
    have B := bsM a1.2 h29
    have b29 : bsF n τ 0 29 = (n : Int) := by rw [fB _ _ ⟨by omega, by omega, by omega⟩]; exact h29
    unfold fX7_goCompanies
    rw [B]
    generalize hfu : mm_fu = NF; have hNF : 4096 ≤ NF := by rw [← hfu]; exact Nat.le_refl _
    simp (implicitDefEqProofs := false) (maxSteps := 1000000) (disch := omega) only [b29, ↓mm_lt_s, ↓cl_in, ↓cl_wi, ↓cl_has, ↓cl_isP, mL_le, lit_n, litL_n, mL_mI, mL_neg, mm_cl_s, mI_lt, mI_le, mI_eq, enc_at, enc_wr, enc_cp, mI_neg, mI_add, mI_sub, mI_mul, mI_ix, mm_ck_ok, mm_nz_ok, mm_bo_c, mm_bo_m0, mm_bo_m1, b01, Int.toNat_natCast, Int.reduceToNat, Int.reduceNeg, Int.reduceSub, Int.reduceAdd, Int.reduceMul, Int.reduceLT, Int.reduceLE, Int.reduceEq, ↓reduceIte, not_true, not_false_eq_true, not_true_eq_false, and_self, true_and, and_true, false_and, and_false, Decidable.not_not, stv1, stv2, stv3, stv4]
    obtain ⟨N, hN⟩ : ∃ N, NF = (N + 1) + j := ⟨NF - 1 - j, by omega⟩
    rw [hN, p2, z, cast0, mm_lk_s, fX7_goCompanies_L11]
    simp (implicitDefEqProofs := false) (maxSteps := 1000000) (disch := omega) only [↓mm_lt_s, ↓cl_in, ↓cl_wi, ↓cl_has, ↓cl_isP, mL_le, lit_n, litL_n, mL_mI, mL_neg, mm_cl_s, mI_lt, mI_le, mI_eq, enc_at, enc_wr, enc_cp, mI_neg, mI_add, mI_sub, mI_mul, mI_ix, mm_ck_ok, mm_nz_ok, mm_bo_c, mm_bo_m0, mm_bo_m1, b01, Int.toNat_natCast, Int.reduceToNat, Int.reduceNeg, Int.reduceSub, Int.reduceAdd, Int.reduceMul, Int.reduceLT, Int.reduceLE, Int.reduceEq, ↓reduceIte, not_true, not_false_eq_true, not_true_eq_false, and_self, true_and, and_true, false_and, and_false, Decidable.not_not, stv1, stv2, stv3, stv4]
