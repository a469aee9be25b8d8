/-! days: the class's step off -/
def popF (n : Nat) : Nat → Nat
  | 0 => 0
  | k + 1 => popF n k + n / 2 ^ k % 2
def popc (n : Nat) : Nat := popF n 10
theorem popF_le (n : Nat) : ∀ k, popF n k ≤ k
  | 0 => Nat.le_refl 0
  | k + 1 => by
    have := popF_le n k
    unfold popF
    omega
theorem popc_le (n : Nat) : popc n ≤ 10 := popF_le n 10
theorem bc_r (a : Int32) (μ : Mm) : fJ6_bitCount a μ = some (((fJ6_bitCount a (fun _ _ => 0)).map (fun q => q.1)).getD 0, μ) := rfl
theorem bc_all : ∀ n, n < 1024 → ((fJ6_bitCount (mI ((n : Nat) : Int)) (fun _ _ => 0)).map (fun q => q.1)).getD 0 = mI ((popc n : Nat) : Int) := by decide +kernel
theorem bc_s {n : Nat} (h : n < 1024) (μ : Mm) : fJ6_bitCount (mI (n : Int)) μ = some (mI ((popc n : Nat) : Int), μ) := by rw [bc_r, bc_all n h]
theorem or_all : ∀ c, c < 1024 → ∀ k, k < 10 → (mI ((c : Nat) : Int) ||| (mI 1 <<< (mI ((k : Nat) : Int) &&& mI 31))) = mI ((c ||| 2 ^ k : Nat) : Int) := by decide +kernel
theorem or_lt {c k : Nat} (hc : c < 1024) (hk : k < 10) : c ||| 2 ^ k < 1024 := Nat.or_lt_two_pow (n := 10) hc (Nat.pow_lt_pow_right (by decide) hk)
abbrev stp (m : Nat) (B : Int) (σ : IM) (p : Nat) : Prop := (σ (34 + p) 8 = 2 ∧ σ (34 + p) 9 = B) ∧ hv m σ p = 0
def offB (t B h : Int) (x : Nat → Int) (b : Nat) : Int := if x 9 = B then offR t h x b else x b
/-- the companies that step off from a bank (a set), the spiting ones -/
def mskF (m : Nat) (B : Int) (σ : IM) : Nat → Nat → Nat → Nat
  | 0, _, c => c
  | d + 1, i, c => mskF m B σ d (i + 1) (if stp m B σ i ∧ σ (34 + i) 5 = 0 then c ||| 2 ^ (σ (34 + i) 6).toNat else c)
def spF (m : Nat) (B : Int) (σ : IM) : Nat → Nat → Nat → Nat
  | 0, _, s => s
  | d + 1, i, s => spF m B σ d (i + 1) (if stp m B σ i ∧ ¬ σ (34 + i) 5 = 0 then s + 1 else s)
theorem mskF_cong {m : Nat} {B : Int} {σ σ1 : IM} : ∀ d i c, (∀ p, i ≤ p → p < i + d → (stp m B σ1 p ↔ stp m B σ p) ∧ σ1 (34 + p) 5 = σ (34 + p) 5 ∧ σ1 (34 + p) 6 = σ (34 + p) 6) → mskF m B σ1 d i c = mskF m B σ d i c
  | 0, _, _, _ => rfl
  | d + 1, i, c, h => by
    unfold mskF
    obtain ⟨h1, h2, h3⟩ := h i (by omega) (by omega)
    rw [mskF_cong d (i + 1) _ (fun p h4 h5 => h p (by omega) (by omega)), h2, h3]
    congr 1
    by_cases c1 : stp m B σ i ∧ σ (34 + i) 5 = 0
    · rw [if_pos c1, if_pos ⟨h1.2 c1.1, c1.2⟩]
    · rw [if_neg c1, if_neg (fun x => c1 ⟨h1.1 x.1, x.2⟩)]
theorem spF_cong {m : Nat} {B : Int} {σ σ1 : IM} : ∀ d i c, (∀ p, i ≤ p → p < i + d → (stp m B σ1 p ↔ stp m B σ p) ∧ σ1 (34 + p) 5 = σ (34 + p) 5) → spF m B σ1 d i c = spF m B σ d i c
  | 0, _, _, _ => rfl
  | d + 1, i, c, h => by
    unfold spF
    obtain ⟨h1, h2⟩ := h i (by omega) (by omega)
    rw [spF_cong d (i + 1) _ (fun p h4 h5 => h p (by omega) (by omega)), h2]
    congr 1
    by_cases c1 : stp m B σ i ∧ ¬ σ (34 + i) 5 = 0
    · rw [if_pos c1, if_pos ⟨h1.2 c1.1, c1.2⟩]
    · rw [if_neg c1, if_neg (fun x => c1 ⟨h1.1 x.1, x.2⟩)]
theorem mskF_lt {m : Nat} {B : Int} {σ : IM} : ∀ d i c, (∀ p, i ≤ p → p < i + d → 0 ≤ σ (34 + p) 6 ∧ σ (34 + p) 6 ≤ 9) → c < 1024 → mskF m B σ d i c < 1024
  | 0, _, _, _, h => h
  | d + 1, i, c, h, hc => by
    unfold mskF
    have h1 := h i (by omega) (by omega)
    refine mskF_lt d (i + 1) _ (fun p h4 h5 => h p (by omega) (by omega)) ?_
    split
    · exact or_lt hc (by omega)
    · exact hc
theorem spF_le {m : Nat} {B : Int} {σ : IM} : ∀ d i s, spF m B σ d i s ≤ s + d
  | 0, _, s => Nat.le_refl s
  | d + 1, i, s => by
    unfold spF
    refine Nat.le_trans (spF_le d (i + 1) _) ?_
    split <;> omega
theorem offR_no {t h : Int} {x : Nat → Int} (c : ¬ x 8 = 2) : offR t h x = x := funext fun b => by unfold offR; rw [if_neg c]
theorem offR_8 {t h : Int} {x : Nat → Int} (c : x 8 = 2) : offR t h x 8 = 2 ∨ offR t h x 8 = 0 ∨ offR t h x 8 = 4 := by
  unfold offR
  rw [if_pos c]
  split
  · rw [if_neg (by decide)]
    exact Or.inl c
  · exact Or.inr (comeR_8 t x)
theorem offB_no {t B h : Int} {x : Nat → Int} (c : ¬ (x 8 = 2 ∧ x 9 = B)) : offB t B h x = x := funext fun b => by
  unfold offB
  by_cases d : x 9 = B
  · rw [if_pos d, offR_no (fun e => c ⟨e, d⟩)]
  · rw [if_neg d]
theorem offB_yes {t B h : Int} {x : Nat → Int} (c : x 9 = B) : offB t B h x = offR t h x := funext fun b => if_pos c
theorem offB_lo {t B h : Int} {x : Nat → Int} {b : Nat} (hb : b < 8) : offB t B h x b = x b := by
  unfold offB
  split
  · exact offR_lo hb
  · rfl
theorem offB_bd {t B h u v w : Int} {x : Nat → Int} (h0 : XT x) (hx : XD x u v w) (ht : 0 ≤ t ∧ t ≤ 1000) : XD (offB t B h x) u (v + 1) w := by
  by_cases c : x 9 = B
  · rw [offB_yes c]
    exact hx.off h0 ht
  · rw [offB_no (fun e => c e.2)]
    obtain ⟨a8, a9, a10, a11, a12, a13, a14, a15, a16, a17⟩ := hx
    exact ⟨a8, a9, a10, a11, a12, a13, a14, a15, by omega, a17⟩
/-- one who steps off changes nothing for whom the others wait for -/
theorem hv_off {m i p : Nat} {t B h : Int} {σ σ1 : IM} (hp : p ≠ i) (h1 : ∀ b, σ1 (34 + i) b = offB t B h (σ (34 + i)) b) (h2 : ∀ a b, a ≠ 34 + i → σ1 a b = σ a b) : hv m σ1 p = hv m σ p := by
  refine hv_cong (h2 _ _ (by omega)) (h2 _ _ (by omega)) (fun q hq => ?_)
  by_cases e : q = i
  · subst e
    by_cases c : σ (34 + q) 8 = 2 ∧ σ (34 + q) 9 = B
    · have k : offB t B h (σ (34 + q)) 8 ≠ 1 := by
        rw [offB_yes c.2]
        have := offR_8 (t := t) (h := h) c.1
        omega
      rw [h1]
      exact ⟨fun x => absurd x.1 k, fun x => by have := x.1; omega⟩
    · rw [h1, h1, offB_no c]
  · rw [h2 _ _ (by omega), h2 _ _ (by omega)]
theorem offX_L {K : Int32 → Int32 → Mm → Aa} {z : Int32 → Int32 → Int32 → Mm → Aa} {m : Nat} {t B u v w : Int} (hm : m ≤ 10) (ht : 0 ≤ t ∧ t ≤ 1000) (hB : 0 ≤ B ∧ B ≤ 1) (hu : u ≤ 1000) (hv0 : v ≤ 1000) (hw : w ≤ 1000) : ∀ (d i N : Nat) (σ : IM) (c s : Nat), i + d = m → d < N → σ 30 6 = (m : Int) → (∀ p, p < m → XT (σ (34 + p)) ∧ (0 ≤ σ (34 + p) 8 ∧ σ (34 + p) 8 ≤ 4) ∧ (0 ≤ σ (34 + p) 9 ∧ σ (34 + p) 9 ≤ 1)) → (∀ p, i ≤ p → p < m → XD (σ (34 + p)) u v w) → c < 1024 → s ≤ i → mm_lk z (fX0_stepOffFrom_L8 (mI B) (mI t) K) N (mI c) (mI s) (mI i) (enc σ) = K (mI (mskF m B σ d i c)) (mI (spF m B σ d i s)) (enc (each σ i m (fun p => offB t B (hv m σ p) (σ (34 + p))))) := by
  intro d
  induction d with
  | zero =>
    intro i N σ c s h hN hs _ _ _ _
    obtain ⟨N, rfl⟩ : ∃ M, N = M + 1 := ⟨N - 1, by omega⟩
    have e : i = m := by omega
    subst e
    rw [mm_lk_s, fX0_stepOffFrom_L8, each_nil]
    simp (implicitDefEqProofs := false) (maxSteps := 1000000) (disch := omega) only [hs, ↓mm_lt_s, ↓cl_in, ↓cl_wi, ↓cl_has, ↓cl_isP, mL_le, lit_n, litL_n, mL_mI, mL_neg, mm_cl_s, mI_lt, mI_le, mI_eq, enc_at, enc_wr, enc_cp, mI_neg, mI_add, mI_sub, mI_mul, mI_ix, mm_ck_ok, mm_nz_ok, mm_bo_c, mm_bo_m0, mm_bo_m1, b01, Int.toNat_natCast, Int.reduceToNat, Int.reduceNeg, Int.reduceSub, Int.reduceAdd, Int.reduceMul, Int.reduceLT, Int.reduceLE, Int.reduceEq, ↓reduceIte, not_true, not_false_eq_true, not_true_eq_false, and_self, true_and, and_true, false_and, and_false, Decidable.not_not, stv1, stv2, stv3, stv4]
    repeat (first | rw [if_pos (by omega)] | rw [if_neg (by omega)])
    rfl
  | succ d ih =>
    intro i N σ c s h hN hs hT hD hc hss
    obtain ⟨N, rfl⟩ : ∃ M, N = M + 1 := ⟨N - 1, by omega⟩
    obtain ⟨t0, t8, t9⟩ := hT i (by omega)
    have hd := hD i (by omega) (by omega)
    obtain ⟨s0, s1, s2, s3, s4, s5, s6, s7⟩ := id t0
    obtain ⟨a8, a9, a10, a11, a12, a13, a14, a15, a16, a17⟩ := id hd
    have c1 : ¬ (m : Int) ≤ (i : Int) := by omega
    have fin : ∀ (σ1 : IM) (c' s' : Nat), (∀ b, σ1 (34 + i) b = offB t B (hv m σ i) (σ (34 + i)) b) → (∀ a b, a ≠ 34 + i → σ1 a b = σ a b) → c' = (if stp m B σ i ∧ σ (34 + i) 5 = 0 then c ||| 2 ^ (σ (34 + i) 6).toNat else c) → s' = (if stp m B σ i ∧ ¬ σ (34 + i) 5 = 0 then s + 1 else s) → mm_lk z (fX0_stepOffFrom_L8 (mI B) (mI t) K) N (mI c') (mI s') (mI ((i + 1 : Nat) : Int)) (enc σ1) = K (mI (mskF m B σ (d + 1) i c)) (mI (spF m B σ (d + 1) i s)) (enc (each σ i m (fun p => offB t B (hv m σ p) (σ (34 + p))))) := fun σ1 c' s' k1 k2 k3 k4 => by
      have r : ∀ p, p ≠ i → σ1 (34 + p) = σ (34 + p) := fun p hp => funext fun b => k2 _ _ (by omega)
      have r2 : ∀ p, p ≠ i → hv m σ1 p = hv m σ p := fun p hp => hv_off hp k1 k2
      have cg : ∀ p, i + 1 ≤ p → p < i + 1 + d → (stp m B σ1 p ↔ stp m B σ p) ∧ σ1 (34 + p) 5 = σ (34 + p) 5 ∧ σ1 (34 + p) 6 = σ (34 + p) 6 := fun p h1 h2 => by
        unfold stp
        rw [r p (by omega), r2 p (by omega)]
        exact ⟨Iff.rfl, rfl, rfl⟩
      have bd := offB_bd (t := t) (B := B) (h := hv m σ i) t0 hd ht
      have E := ih (i + 1) N σ1 c' s' (by omega) (by omega) (by rw [k2 _ _ (by omega)]; exact hs) (fun p hp => by
        by_cases e : p = i
        · subst e
          exact ⟨t0.cong (fun b hb => by rw [k1, offB_lo hb]), by rw [k1]; exact bd.1, by rw [k1]; exact bd.2.1⟩
        · rw [r p e]; exact hT p hp) (fun p h1 h2 => by rw [r p (by omega)]; exact hD p (by omega) h2) (by
        rw [k3]
        split
        · exact or_lt hc (by omega)
        · exact hc) (by
        rw [k4]
        split <;> omega)
      rw [E]
      have q1 : mskF m B σ (d + 1) i c = mskF m B σ1 d (i + 1) c' := by
        rw [mskF_cong d (i + 1) c' cg, k3]
        rfl
      have q2 : spF m B σ (d + 1) i s = spF m B σ1 d (i + 1) s' := by
        rw [spF_cong d (i + 1) s' (fun p h1 h2 => ⟨(cg p h1 h2).1, (cg p h1 h2).2.1⟩), k4]
        rfl
      rw [q1, q2, ← each_step (g := fun σ p => offB t B (hv m σ p) (σ (34 + p))) (by omega) k1 k2 (fun p b hp => by rw [r p hp, r2 p hp])]
    rw [mm_lk_s, fX0_stepOffFrom_L8]
    by_cases c8 : σ (34 + i) 8 = 2
    · by_cases c9 : σ (34 + i) 9 = B
      · have HX := heldX (p := i) hm (by omega) hs s7 (fun q hq => (hT q hq).2.1) (fun q hq => (hT q hq).2.2)
        rcases hv_01 m σ i with h0 | h0
        · rw [h0] at HX
          obtain ⟨σ1, p1, p2, p3⟩ := comeX (σ := σ) (p := i) ht (by omega) (by omega) (by omega) (by omega)
          have e5 : σ1 (34 + i) 5 = σ (34 + i) 5 := by rw [p2, comeR_lo (by omega)]
          have e6 : σ1 (34 + i) 6 = σ (34 + i) 6 := by rw [p2, comeR_lo (by omega)]
          have st : stp m B σ i := ⟨⟨c8, c9⟩, h0⟩
          have rw1 : ∀ b, σ1 (34 + i) b = offB t B (hv m σ i) (σ (34 + i)) b := fun b => by
            rw [p2, offB_yes c9, h0]
            unfold offR
            rw [if_pos c8, if_neg (by decide)]
          by_cases c5 : σ (34 + i) 5 = 0
          · have O := or_all c hc (σ (34 + i) 6).toNat (by omega)
            have e6' : ((σ (34 + i) 6).toNat : Int) = σ (34 + i) 6 := by omega
            rw [e6'] at O
            have F := fin σ1 (c ||| 2 ^ (σ (34 + i) 6).toNat) s rw1 p3 (if_pos ⟨st, c5⟩).symm (if_neg (fun x => x.2 c5)).symm
            simp (implicitDefEqProofs := false) (maxSteps := 1000000) (disch := omega) only [hs, c1, eq_true c8, eq_true c9, ↓mm_lt_s, ↓cl_in, ↓cl_wi, ↓cl_has, ↓cl_isP, mL_le, lit_n, litL_n, mL_mI, mL_neg, mm_cl_s, mI_lt, mI_le, mI_eq, enc_at, enc_wr, enc_cp, mI_neg, mI_add, mI_sub, mI_mul, mI_ix, mm_ck_ok, mm_nz_ok, mm_bo_c, mm_bo_m0, mm_bo_m1, b01, Int.toNat_natCast, Int.reduceToNat, Int.reduceNeg, Int.reduceSub, Int.reduceAdd, Int.reduceMul, Int.reduceLT, Int.reduceLE, Int.reduceEq, ↓reduceIte, not_true, not_false_eq_true, not_true_eq_false, and_self, true_and, and_true, false_and, and_false, Decidable.not_not, stv1, stv2, stv3, stv4]
            rw [HX]
            simp (implicitDefEqProofs := false) (maxSteps := 1000000) (disch := omega) only [↓mm_lt_s, ↓cl_in, ↓cl_wi, ↓cl_has, ↓cl_isP, mL_le, lit_n, litL_n, mL_mI, mL_neg, mm_cl_s, mI_lt, mI_le, mI_eq, enc_at, enc_wr, enc_cp, mI_neg, mI_add, mI_sub, mI_mul, mI_ix, mm_ck_ok, mm_nz_ok, mm_bo_c, mm_bo_m0, mm_bo_m1, b01, Int.toNat_natCast, Int.reduceToNat, Int.reduceNeg, Int.reduceSub, Int.reduceAdd, Int.reduceMul, Int.reduceLT, Int.reduceLE, Int.reduceEq, ↓reduceIte, not_true, not_false_eq_true, not_true_eq_false, and_self, true_and, and_true, false_and, and_false, Decidable.not_not, stv1, stv2, stv3, stv4]
            rw [p1]
            simp (implicitDefEqProofs := false) (maxSteps := 1000000) (disch := omega) only [e5, e6, c5, O, cast_s, ↓mm_lt_s, ↓cl_in, ↓cl_wi, ↓cl_has, ↓cl_isP, mL_le, lit_n, litL_n, mL_mI, mL_neg, mm_cl_s, mI_lt, mI_le, mI_eq, enc_at, enc_wr, enc_cp, mI_neg, mI_add, mI_sub, mI_mul, mI_ix, mm_ck_ok, mm_nz_ok, mm_bo_c, mm_bo_m0, mm_bo_m1, b01, Int.toNat_natCast, Int.reduceToNat, Int.reduceNeg, Int.reduceSub, Int.reduceAdd, Int.reduceMul, Int.reduceLT, Int.reduceLE, Int.reduceEq, ↓reduceIte, not_true, not_false_eq_true, not_true_eq_false, and_self, true_and, and_true, false_and, and_false, Decidable.not_not, stv1, stv2, stv3, stv4]
            exact F
          · have F := fin σ1 c (s + 1) rw1 p3 (if_neg (fun x => c5 x.2)).symm (if_pos ⟨st, c5⟩).symm
            simp (implicitDefEqProofs := false) (maxSteps := 1000000) (disch := omega) only [hs, c1, eq_true c8, eq_true c9, ↓mm_lt_s, ↓cl_in, ↓cl_wi, ↓cl_has, ↓cl_isP, mL_le, lit_n, litL_n, mL_mI, mL_neg, mm_cl_s, mI_lt, mI_le, mI_eq, enc_at, enc_wr, enc_cp, mI_neg, mI_add, mI_sub, mI_mul, mI_ix, mm_ck_ok, mm_nz_ok, mm_bo_c, mm_bo_m0, mm_bo_m1, b01, Int.toNat_natCast, Int.reduceToNat, Int.reduceNeg, Int.reduceSub, Int.reduceAdd, Int.reduceMul, Int.reduceLT, Int.reduceLE, Int.reduceEq, ↓reduceIte, not_true, not_false_eq_true, not_true_eq_false, and_self, true_and, and_true, false_and, and_false, Decidable.not_not, stv1, stv2, stv3, stv4]
            rw [HX]
            simp (implicitDefEqProofs := false) (maxSteps := 1000000) (disch := omega) only [↓mm_lt_s, ↓cl_in, ↓cl_wi, ↓cl_has, ↓cl_isP, mL_le, lit_n, litL_n, mL_mI, mL_neg, mm_cl_s, mI_lt, mI_le, mI_eq, enc_at, enc_wr, enc_cp, mI_neg, mI_add, mI_sub, mI_mul, mI_ix, mm_ck_ok, mm_nz_ok, mm_bo_c, mm_bo_m0, mm_bo_m1, b01, Int.toNat_natCast, Int.reduceToNat, Int.reduceNeg, Int.reduceSub, Int.reduceAdd, Int.reduceMul, Int.reduceLT, Int.reduceLE, Int.reduceEq, ↓reduceIte, not_true, not_false_eq_true, not_true_eq_false, and_self, true_and, and_true, false_and, and_false, Decidable.not_not, stv1, stv2, stv3, stv4]
            rw [p1]
            simp (implicitDefEqProofs := false) (maxSteps := 1000000) (disch := omega) only [e5, e6, c5, cast_s, ↓mm_lt_s, ↓cl_in, ↓cl_wi, ↓cl_has, ↓cl_isP, mL_le, lit_n, litL_n, mL_mI, mL_neg, mm_cl_s, mI_lt, mI_le, mI_eq, enc_at, enc_wr, enc_cp, mI_neg, mI_add, mI_sub, mI_mul, mI_ix, mm_ck_ok, mm_nz_ok, mm_bo_c, mm_bo_m0, mm_bo_m1, b01, Int.toNat_natCast, Int.reduceToNat, Int.reduceNeg, Int.reduceSub, Int.reduceAdd, Int.reduceMul, Int.reduceLT, Int.reduceLE, Int.reduceEq, ↓reduceIte, not_true, not_false_eq_true, not_true_eq_false, and_self, true_and, and_true, false_and, and_false, Decidable.not_not, stv1, stv2, stv3, stv4]
            exact F
        · rw [h0] at HX
          have n1 : ¬ stp m B σ i := fun x => by have := x.2; omega
          have F := fin (iw σ (34 + i) 16 (σ (34 + i) 16 + 1)) c s (fun b => by
            rw [offB_yes c9, h0]
            unfold offR
            rw [if_pos c8, if_pos rfl]
            by_cases b16 : b = 16
            · rw [if_pos b16, b16, iw_eq rfl rfl]
            · rw [if_neg b16, iw_ne (by omega)]) (fun a b hab => iw_ne (by omega)) (if_neg (fun x => n1 x.1)).symm (if_neg (fun x => n1 x.1)).symm
          simp (implicitDefEqProofs := false) (maxSteps := 1000000) (disch := omega) only [hs, c1, eq_true c8, eq_true c9, ↓mm_lt_s, ↓cl_in, ↓cl_wi, ↓cl_has, ↓cl_isP, mL_le, lit_n, litL_n, mL_mI, mL_neg, mm_cl_s, mI_lt, mI_le, mI_eq, enc_at, enc_wr, enc_cp, mI_neg, mI_add, mI_sub, mI_mul, mI_ix, mm_ck_ok, mm_nz_ok, mm_bo_c, mm_bo_m0, mm_bo_m1, b01, Int.toNat_natCast, Int.reduceToNat, Int.reduceNeg, Int.reduceSub, Int.reduceAdd, Int.reduceMul, Int.reduceLT, Int.reduceLE, Int.reduceEq, ↓reduceIte, not_true, not_false_eq_true, not_true_eq_false, and_self, true_and, and_true, false_and, and_false, Decidable.not_not, stv1, stv2, stv3, stv4]
          rw [HX]
          simp (implicitDefEqProofs := false) (maxSteps := 1000000) (disch := omega) only [cast_s, ↓mm_lt_s, ↓cl_in, ↓cl_wi, ↓cl_has, ↓cl_isP, mL_le, lit_n, litL_n, mL_mI, mL_neg, mm_cl_s, mI_lt, mI_le, mI_eq, enc_at, enc_wr, enc_cp, mI_neg, mI_add, mI_sub, mI_mul, mI_ix, mm_ck_ok, mm_nz_ok, mm_bo_c, mm_bo_m0, mm_bo_m1, b01, Int.toNat_natCast, Int.reduceToNat, Int.reduceNeg, Int.reduceSub, Int.reduceAdd, Int.reduceMul, Int.reduceLT, Int.reduceLE, Int.reduceEq, ↓reduceIte, not_true, not_false_eq_true, not_true_eq_false, and_self, true_and, and_true, false_and, and_false, Decidable.not_not, stv1, stv2, stv3, stv4]
          exact F
      · have F := fin σ c s (fun b => by rw [offB_no (fun x => c9 x.2)]) (fun _ _ _ => rfl) (if_neg (fun x => c9 x.1.1.2)).symm (if_neg (fun x => c9 x.1.1.2)).symm
        simp (implicitDefEqProofs := false) (maxSteps := 1000000) (disch := omega) only [hs, c1, eq_true c8, c9, cast_s, ↓mm_lt_s, ↓cl_in, ↓cl_wi, ↓cl_has, ↓cl_isP, mL_le, lit_n, litL_n, mL_mI, mL_neg, mm_cl_s, mI_lt, mI_le, mI_eq, enc_at, enc_wr, enc_cp, mI_neg, mI_add, mI_sub, mI_mul, mI_ix, mm_ck_ok, mm_nz_ok, mm_bo_c, mm_bo_m0, mm_bo_m1, b01, Int.toNat_natCast, Int.reduceToNat, Int.reduceNeg, Int.reduceSub, Int.reduceAdd, Int.reduceMul, Int.reduceLT, Int.reduceLE, Int.reduceEq, ↓reduceIte, not_true, not_false_eq_true, not_true_eq_false, and_self, true_and, and_true, false_and, and_false, Decidable.not_not, stv1, stv2, stv3, stv4]
        exact F
    · have F := fin σ c s (fun b => by rw [offB_no (fun x => c8 x.1)]) (fun _ _ _ => rfl) (if_neg (fun x => c8 x.1.1.1)).symm (if_neg (fun x => c8 x.1.1.1)).symm
      simp (implicitDefEqProofs := false) (maxSteps := 1000000) (disch := omega) only [hs, c1, c8, cast_s, ↓mm_lt_s, ↓cl_in, ↓cl_wi, ↓cl_has, ↓cl_isP, mL_le, lit_n, litL_n, mL_mI, mL_neg, mm_cl_s, mI_lt, mI_le, mI_eq, enc_at, enc_wr, enc_cp, mI_neg, mI_add, mI_sub, mI_mul, mI_ix, mm_ck_ok, mm_nz_ok, mm_bo_c, mm_bo_m0, mm_bo_m1, b01, Int.toNat_natCast, Int.reduceToNat, Int.reduceNeg, Int.reduceSub, Int.reduceAdd, Int.reduceMul, Int.reduceLT, Int.reduceLE, Int.reduceEq, ↓reduceIte, not_true, not_false_eq_true, not_true_eq_false, and_self, true_and, and_true, false_and, and_false, Decidable.not_not, stv1, stv2, stv3, stv4]
      exact F
