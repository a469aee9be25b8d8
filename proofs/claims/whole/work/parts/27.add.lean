def rowOk (v : Nat → Int) : Prop := ∀ j, j < 5 → tolLo j ≤ v j ∧ v j ≤ tolHi j
def addX (σ : IM) (m : Nat) (v : Nat → Int) : IM := fun a b => if a = 4 + m ∧ b < 7 then (if b < 5 then v b else if b = 5 then 0 else -1) else if a = 1 ∧ b = 1 then (m : Int) + 1 else σ a b
def addM (τ : IM) (m : Nat) (v : Nat → Int) : IM := fun a b => if a = 1 ∧ (7 * m ≤ b ∧ b < 7 * m + 7) then (if b - 7 * m < 5 then v (b - 7 * m) else if b - 7 * m = 5 then 0 else -4) else if a = 0 ∧ b = 1 then (m : Int) + 1 else τ a b
theorem addX_ne {σ : IM} {m : Nat} {v : Nat → Int} {a b : Nat} (h1 : ¬ (a = 4 + m ∧ b < 7)) (h2 : ¬ (a = 1 ∧ b = 1)) : addX σ m v a b = σ a b := by rw [addX, if_neg h1, if_neg h2]
theorem addM_ne {τ : IM} {m : Nat} {v : Nat → Int} {a b : Nat} (h1 : ¬ (a = 1 ∧ (7 * m ≤ b ∧ b < 7 * m + 7))) (h2 : ¬ (a = 0 ∧ b = 1)) : addM τ m v a b = τ a b := by rw [addM, if_neg h1, if_neg h2]
theorem addX_in {σ : IM} {m j : Nat} {v : Nat → Int} (h : j < 7) : addX σ m v (4 + m) j = if j < 5 then v j else if j = 5 then 0 else -1 := by rw [addX, if_pos ⟨rfl, h⟩]
theorem addM_in {τ : IM} {m j : Nat} {v : Nat → Int} (h : j < 7) : addM τ m v 1 (7 * m + j) = if j < 5 then v j else if j = 5 then 0 else -4 := by
  rw [addM, if_pos (by omega), show 7 * m + j - 7 * m = j by omega]
theorem RX.add {σ τ : IM} (h : RX σ τ) {m : Nat} (hm : τ 0 1 = (m : Int)) (h10 : m < 10) {v : Nat → Int} (hv : rowOk v) : RX (addX σ m v) (addM τ m v) := by
  refine h.rest ?_ (fun k j h1 h2 => addX_ne (by omega) (by omega)) (fun k j h1 => addM_ne (by omega) (by omega))
  obtain ⟨b1, b2, b3, b4⟩ := h.1
  have e1 : addM τ m v 0 1 = (m : Int) + 1 := by rw [addM, if_neg (by omega), if_pos ⟨rfl, rfl⟩]
  have e2 : addM τ m v 0 3 = τ 0 3 := addM_ne (by omega) (by omega)
  rw [e1, e2]
  refine ⟨?_, ⟨?_, by omega, by omega⟩, fun i hi => ?_, fun p hp => ?_⟩
  · rw [addX_ne (by omega) (by omega)]; exact b1
  · rw [addX, if_neg (by omega), if_pos ⟨rfl, rfl⟩]
  · rw [addX_ne (by omega) (by omega), addM_ne (by omega) (by omega)]; exact b3 i hi
  · by_cases e : p = m
    · subst e
      refine ⟨fun j hj => ?_, ?_, ?_⟩
      · rw [show 1 + 3 + p = 4 + p by omega, addX_in (by omega), addM_in (by omega)]
        by_cases c : j < 5
        · rw [if_pos c, if_pos c]
          exact ⟨rfl, hv j c⟩
        · have : j = 5 := by omega
          subst this
          exact ⟨rfl, by show (0 : Int) ≤ 0; decide, by show (0 : Int) ≤ 60; decide⟩
      · rw [show 1 + 3 + p = 4 + p by omega, addX_in (by omega), addM_in (by omega)]
        rfl
      · rw [show 1 + 3 + p = 4 + p by omega, addX_in (by omega)]
        show -1 ≤ (-1 : Int) ∧ (-1 : Int) < (p : Int) + 1
        omega
    · obtain ⟨d1, d2, d3⟩ := b4 p (by omega)
      refine ⟨fun j hj => ?_, ?_, ?_⟩
      · rw [addX_ne (by omega) (by omega), addM_ne (by omega) (by omega)]; exact d1 j hj
      · rw [addX_ne (by omega) (by omega), addM_ne (by omega) (by omega)]; exact d2
      · rw [addX_ne (by omega) (by omega)]; omega
theorem mayL_ok {k n f : Nat} {σ : IM} {K0 K1 : Mm → Aa} {z : Int32 → Mm → Aa} (hf : f + 5 ≤ n) (hn : n ≤ 1000) : ∀ (d i N : Nat), i + d = 5 → d < N → (∀ j, i ≤ j → j < 5 → tolLo j ≤ σ k (f + j) ∧ σ k (f + j) ≤ tolHi j) → mm_lk z (fX3_mayCome_L16 (mI f) k n K0 K1) N (mI i) (enc σ) = K1 (enc σ)
  | d, i, 0, _, h, _ => absurd h (Nat.not_lt_zero d)
  | 0, i, N + 1, h, _, _ => by
    rw [mm_lk_s, fX3_mayCome_L16]
    simp (implicitDefEqProofs := false) (maxSteps := 1000000) (disch := omega) only [↓mm_lt_s, ↓cl_in, ↓cl_wi, ↓cl_has, ↓cl_isP, mL_le, lit_n, litL_n, mL_mI, mL_neg, mm_cl_s, mI_lt, mI_le, mI_eq, enc_at, enc_wr, enc_cp, mI_neg, mI_add, mI_sub, mI_mul, mI_ix, mm_ck_ok, mm_nz_ok, mm_bo_c, mm_bo_m0, mm_bo_m1, b01, Int.toNat_natCast, Int.reduceToNat, Int.reduceNeg, Int.reduceSub, Int.reduceAdd, Int.reduceMul, Int.reduceLT, Int.reduceLE, Int.reduceEq, ↓reduceIte, not_true, not_false_eq_true, not_true_eq_false, and_self, true_and, and_true, false_and, and_false, Decidable.not_not, stv1, stv2, stv3, stv4]
    repeat (first | rw [if_pos (by omega)] | rw [if_neg (by omega)])
  | d + 1, i, N + 1, h, h2, h3 => by
    have q := h3 i (by omega) (by omega)
    have q2 := tolB i
    have e : ((f : Int) + (i : Int)).toNat = f + i := by omega
    rw [mm_lk_s, fX3_mayCome_L16]
    simp (implicitDefEqProofs := false) (maxSteps := 1000000) (disch := omega) only [cast_s, e, ↓mm_lt_s, ↓cl_in, ↓cl_wi, ↓cl_has, ↓cl_isP, mL_le, lit_n, litL_n, mL_mI, mL_neg, mm_cl_s, mI_lt, mI_le, mI_eq, enc_at, enc_wr, enc_cp, mI_neg, mI_add, mI_sub, mI_mul, mI_ix, mm_ck_ok, mm_nz_ok, mm_bo_c, mm_bo_m0, mm_bo_m1, b01, Int.toNat_natCast, Int.reduceToNat, Int.reduceNeg, Int.reduceSub, Int.reduceAdd, Int.reduceMul, Int.reduceLT, Int.reduceLE, Int.reduceEq, ↓reduceIte, not_true, not_false_eq_true, not_true_eq_false, and_self, true_and, and_true, false_and, and_false, Decidable.not_not, stv1, stv2, stv3, stv4]
    repeat (first | rw [if_pos (by omega)] | rw [if_neg (by omega)])
    exact mayL_ok hf hn d (i + 1) N (by omega) (by omega) (fun j h4 h5 => h3 j (by omega) h5)
theorem mayL_no {k n f : Nat} {σ : IM} {K0 K1 : Mm → Aa} {z : Int32 → Mm → Aa} (hf : f + 5 ≤ n) (hn : n ≤ 1000) (hr : ∀ j, j < 5 → I32 (σ k (f + j))) : ∀ (d i N : Nat), i + d = 5 → d < N → (∃ j, i ≤ j ∧ j < 5 ∧ ¬ (tolLo j ≤ σ k (f + j) ∧ σ k (f + j) ≤ tolHi j)) → mm_lk z (fX3_mayCome_L16 (mI f) k n K0 K1) N (mI i) (enc σ) = K0 (enc σ)
  | d, i, 0, _, h, _ => absurd h (Nat.not_lt_zero d)
  | 0, i, N + 1, h, _, h3 => by
    obtain ⟨j, h4, h5, -⟩ := h3
    omega
  | d + 1, i, N + 1, h, h2, h3 => by
    have q := hr i (by omega)
    have q2 := tolB i
    have e : ((f : Int) + (i : Int)).toNat = f + i := by omega
    rw [mm_lk_s, fX3_mayCome_L16]
    simp (implicitDefEqProofs := false) (maxSteps := 1000000) (disch := omega) only [cast_s, e, ↓mm_lt_s, ↓cl_in, ↓cl_wi, ↓cl_has, ↓cl_isP, mL_le, lit_n, litL_n, mL_mI, mL_neg, mm_cl_s, mI_lt, mI_le, mI_eq, enc_at, enc_wr, enc_cp, mI_neg, mI_add, mI_sub, mI_mul, mI_ix, mm_ck_ok, mm_nz_ok, mm_bo_c, mm_bo_m0, mm_bo_m1, b01, Int.toNat_natCast, Int.reduceToNat, Int.reduceNeg, Int.reduceSub, Int.reduceAdd, Int.reduceMul, Int.reduceLT, Int.reduceLE, Int.reduceEq, ↓reduceIte, not_true, not_false_eq_true, not_true_eq_false, and_self, true_and, and_true, false_and, and_false, Decidable.not_not, stv1, stv2, stv3, stv4]
    by_cases c : tolLo i ≤ σ k (f + i) ∧ σ k (f + i) ≤ tolHi i
    · repeat (first | rw [if_pos (by omega)] | rw [if_neg (by omega)])
      refine mayL_no hf hn hr d (i + 1) N (by omega) (by omega) ?_
      obtain ⟨j, h4, h5, h6⟩ := h3
      refine ⟨j, ?_, h5, h6⟩
      by_cases e9 : j = i
      · subst e9; exact absurd c h6
      · omega
    · by_cases c2 : σ k (f + i) < tolLo i
      · repeat (first | rw [if_pos (by omega)] | rw [if_neg (by omega)])
      · repeat (first | rw [if_pos (by omega)] | rw [if_neg (by omega)])
theorem may_ok {k n f : Nat} {σ : IM} (hf : f + 5 ≤ n) (hn : n ≤ 1000) (h : rowOk (fun j => σ k (f + j))) : fX3_mayCome k n (mI f) (enc σ) = some (mI 1, enc σ) := by
  unfold fX3_mayCome
  generalize hfu : mm_fu = NF; have hNF : 4096 ≤ NF := by rw [← hfu]; exact Nat.le_refl _
  rw [show Int32.ofNat n = mI n from rfl]
  simp (implicitDefEqProofs := false) (maxSteps := 1000000) (disch := omega) only [↓mm_lt_s, ↓cl_in, ↓cl_wi, ↓cl_has, ↓cl_isP, mL_le, lit_n, litL_n, mL_mI, mL_neg, mm_cl_s, mI_lt, mI_le, mI_eq, enc_at, enc_wr, enc_cp, mI_neg, mI_add, mI_sub, mI_mul, mI_ix, mm_ck_ok, mm_nz_ok, mm_bo_c, mm_bo_m0, mm_bo_m1, b01, Int.toNat_natCast, Int.reduceToNat, Int.reduceNeg, Int.reduceSub, Int.reduceAdd, Int.reduceMul, Int.reduceLT, Int.reduceLE, Int.reduceEq, ↓reduceIte, not_true, not_false_eq_true, not_true_eq_false, and_self, true_and, and_true, false_and, and_false, Decidable.not_not, stv1, stv2, stv3, stv4]
  repeat (first | rw [if_pos (by omega)] | rw [if_neg (by omega)])
  rw [show mI 0 = mI ((0 : Nat) : Int) from rfl, mayL_ok hf hn 5 0 NF (by omega) (by omega) (fun j _ h5 => h j h5)]
theorem may_no {k n f : Nat} {σ : IM} (hf : f + 5 ≤ n) (hn : n ≤ 1000) (hr : ∀ j, j < 5 → I32 (σ k (f + j))) (h : ¬ rowOk (fun j => σ k (f + j))) : fX3_mayCome k n (mI f) (enc σ) = some (mI 0, enc σ) := by
  have hx : ∃ j, 0 ≤ j ∧ j < 5 ∧ ¬ (tolLo j ≤ σ k (f + j) ∧ σ k (f + j) ≤ tolHi j) := by
    refine Classical.byContradiction fun hc => h fun j hj => ?_
    refine Classical.byContradiction fun h9 => hc ⟨j, Nat.zero_le _, hj, h9⟩
  unfold fX3_mayCome
  generalize hfu : mm_fu = NF; have hNF : 4096 ≤ NF := by rw [← hfu]; exact Nat.le_refl _
  rw [show Int32.ofNat n = mI n from rfl]
  simp (implicitDefEqProofs := false) (maxSteps := 1000000) (disch := omega) only [↓mm_lt_s, ↓cl_in, ↓cl_wi, ↓cl_has, ↓cl_isP, mL_le, lit_n, litL_n, mL_mI, mL_neg, mm_cl_s, mI_lt, mI_le, mI_eq, enc_at, enc_wr, enc_cp, mI_neg, mI_add, mI_sub, mI_mul, mI_ix, mm_ck_ok, mm_nz_ok, mm_bo_c, mm_bo_m0, mm_bo_m1, b01, Int.toNat_natCast, Int.reduceToNat, Int.reduceNeg, Int.reduceSub, Int.reduceAdd, Int.reduceMul, Int.reduceLT, Int.reduceLE, Int.reduceEq, ↓reduceIte, not_true, not_false_eq_true, not_true_eq_false, and_self, true_and, and_true, false_and, and_false, Decidable.not_not, stv1, stv2, stv3, stv4]
  repeat (first | rw [if_pos (by omega)] | rw [if_neg (by omega)])
  have e := mayL_no (K0 := fun m4 => some (mI 0, m4)) (K1 := fun m3 => some (mI 1, m3)) (z := fun _ _ => none) hf hn hr 5 0 NF (by omega) (by omega) hx
  exact e
theorem room_s (x : Int) (σ : IM) (h1 : 0 ≤ x ∧ x ≤ 10) (h2 : 0 ≤ σ 1 1 ∧ σ 1 1 ≤ 10) : fX3_hasRoom (mI x) (enc σ) = some (if σ 1 1 + x ≤ 10 then mI 1 else mI 0, enc σ) := by
  unfold fX3_hasRoom
  simp (implicitDefEqProofs := false) (maxSteps := 1000000) (disch := omega) only [↓mm_lt_s, ↓cl_in, ↓cl_wi, ↓cl_has, ↓cl_isP, mL_le, lit_n, litL_n, mL_mI, mL_neg, mm_cl_s, mI_lt, mI_le, mI_eq, enc_at, enc_wr, enc_cp, mI_neg, mI_add, mI_sub, mI_mul, mI_ix, mm_ck_ok, mm_nz_ok, mm_bo_c, mm_bo_m0, mm_bo_m1, b01, Int.toNat_natCast, Int.reduceToNat, Int.reduceNeg, Int.reduceSub, Int.reduceAdd, Int.reduceMul, Int.reduceLT, Int.reduceLE, Int.reduceEq, ↓reduceIte, not_true, not_false_eq_true, not_true_eq_false, and_self, true_and, and_true, false_and, and_false, Decidable.not_not, stv1, stv2, stv3, stv4]
  by_cases c : σ 1 1 + x ≤ 10
  · repeat (first | rw [if_pos (by omega)] | rw [if_neg (by omega)])
  · repeat (first | rw [if_pos (by omega)] | rw [if_neg (by omega)])
theorem enlist_s {k n f m : Nat} {σ : IM} (hf : f + 5 ≤ n) (hn : n ≤ 1000) (hm : σ 1 1 = (m : Int)) (h10 : m < 10) (hk : 14 ≤ k) (h : rowOk (fun j => σ k (f + j))) : fX3_enlist k n (mI f) (enc σ) = some (mI 0, enc (addX σ m (fun j => σ k (f + j)))) := by
  unfold fX3_enlist
  rw [show (1 : Int32) = mI 1 from rfl, room_s 1 σ (by omega) (by omega)]
  simp (implicitDefEqProofs := false) (maxSteps := 1000000) (disch := omega) only [↓mm_lt_s, ↓cl_in, ↓cl_wi, ↓cl_has, ↓cl_isP, mL_le, lit_n, litL_n, mL_mI, mL_neg, mm_cl_s, mI_lt, mI_le, mI_eq, enc_at, enc_wr, enc_cp, mI_neg, mI_add, mI_sub, mI_mul, mI_ix, mm_ck_ok, mm_nz_ok, mm_bo_c, mm_bo_m0, mm_bo_m1, b01, Int.toNat_natCast, Int.reduceToNat, Int.reduceNeg, Int.reduceSub, Int.reduceAdd, Int.reduceMul, Int.reduceLT, Int.reduceLE, Int.reduceEq, ↓reduceIte, not_true, not_false_eq_true, not_true_eq_false, and_self, true_and, and_true, false_and, and_false, Decidable.not_not, stv1, stv2, stv3, stv4]
  rw [may_ok hf hn h]
  have e0 : icp σ k (4 + m) f 0 5 1 1 = (m : Int) := by rw [icp_ne (by omega), hm]
  have e1 : iw (icp σ k (4 + m) f 0 5) (4 + m) 5 0 1 1 = (m : Int) := by rw [iw_ne (by omega), e0]
  have e2 : iw (iw (icp σ k (4 + m) f 0 5) (4 + m) 5 0) (4 + m) 6 (-1) 1 1 = (m : Int) := by rw [iw_ne (by omega), e1]
  simp (implicitDefEqProofs := false) (maxSteps := 1000000) (disch := omega) only [mm_ac_ok, hm, e0, e1, e2, ↓mm_lt_s, ↓cl_in, ↓cl_wi, ↓cl_has, ↓cl_isP, mL_le, lit_n, litL_n, mL_mI, mL_neg, mm_cl_s, mI_lt, mI_le, mI_eq, enc_at, enc_wr, enc_cp, mI_neg, mI_add, mI_sub, mI_mul, mI_ix, mm_ck_ok, mm_nz_ok, mm_bo_c, mm_bo_m0, mm_bo_m1, b01, Int.toNat_natCast, Int.reduceToNat, Int.reduceNeg, Int.reduceSub, Int.reduceAdd, Int.reduceMul, Int.reduceLT, Int.reduceLE, Int.reduceEq, ↓reduceIte, not_true, not_false_eq_true, not_true_eq_false, and_self, true_and, and_true, false_and, and_false, Decidable.not_not, stv1, stv2, stv3, stv4]
  repeat (first | rw [if_pos (by omega)] | rw [if_neg (by omega)])
  congr 3
  funext a b
  unfold addX
  by_cases c1 : a = 4 + m ∧ b < 7
  · rw [if_pos c1, iw_ne (by omega)]
    obtain ⟨rfl, hb⟩ := c1
    by_cases c2 : b < 5
    · rw [if_pos c2, iw_ne (by omega), iw_ne (by omega), icp_in (by omega)]
      congr 1
    · rw [if_neg c2]
      by_cases c3 : b = 5
      · subst c3
        rw [if_pos rfl, iw_ne (by omega), iw_eq rfl rfl]
      · rw [if_neg c3, iw_eq rfl (by omega)]
  · rw [if_neg c1]
    by_cases c2 : a = 1 ∧ b = 1
    · obtain ⟨rfl, rfl⟩ := c2
      rw [if_pos ⟨rfl, rfl⟩, iw_eq rfl rfl]
    · rw [if_neg c2, iw_ne (by omega), iw_ne (by omega), iw_ne (by omega), icp_ne (by omega)]
theorem add_s {m : Nat} {τ : IM} (hm : τ 0 1 = (m : Int)) (h10 : m < 10) (v : Nat → Int) : fX7_add (mI (v 0)) (mI (v 1)) (mI (v 2)) (mI (v 3)) (mI (v 4)) (enc τ) = some (mI 0, enc (addM τ m v)) := by
  unfold fX7_add
  have n0 : (7 * (m : Int)).toNat = 7 * m := by omega
  have n1 : (7 * (m : Int) + 1).toNat = 7 * m + 1 := by omega
  have n2 : (7 * (m : Int) + 2).toNat = 7 * m + 2 := by omega
  have n3 : (7 * (m : Int) + 3).toNat = 7 * m + 3 := by omega
  have n4 : (7 * (m : Int) + 4).toNat = 7 * m + 4 := by omega
  have n5 : (7 * (m : Int) + 5).toNat = 7 * m + 5 := by omega
  have n6 : (7 * (m : Int) + 6).toNat = 7 * m + 6 := by omega
  simp (implicitDefEqProofs := false) (maxSteps := 1000000) (disch := omega) only [hm, n0, n1, n2, n3, n4, n5, n6, ↓mm_lt_s, ↓cl_in, ↓cl_wi, ↓cl_has, ↓cl_isP, mL_le, lit_n, litL_n, mL_mI, mL_neg, mm_cl_s, mI_lt, mI_le, mI_eq, enc_at, enc_wr, enc_cp, mI_neg, mI_add, mI_sub, mI_mul, mI_ix, mm_ck_ok, mm_nz_ok, mm_bo_c, mm_bo_m0, mm_bo_m1, b01, Int.toNat_natCast, Int.reduceToNat, Int.reduceNeg, Int.reduceSub, Int.reduceAdd, Int.reduceMul, Int.reduceLT, Int.reduceLE, Int.reduceEq, ↓reduceIte, not_true, not_false_eq_true, not_true_eq_false, and_self, true_and, and_true, false_and, and_false, Decidable.not_not, stv1, stv2, stv3, stv4]
  congr 3
  funext a b
  unfold addM
  by_cases c1 : a = 1 ∧ (7 * m ≤ b ∧ b < 7 * m + 7)
  · rw [if_pos c1, iw_ne (by omega)]
    obtain ⟨rfl, hb1, hb2⟩ := c1
    obtain ⟨j, rfl⟩ : ∃ j, b = 7 * m + j := ⟨b - 7 * m, by omega⟩
    have hj : j < 7 := by omega
    rw [show 7 * m + j - 7 * m = j by omega]
    have : j = 0 ∨ j = 1 ∨ j = 2 ∨ j = 3 ∨ j = 4 ∨ j = 5 ∨ j = 6 := by omega
    rcases this with rfl | rfl | rfl | rfl | rfl | rfl | rfl <;> simp [iw]
  · rw [if_neg c1]
    by_cases c2 : a = 0 ∧ b = 1
    · obtain ⟨rfl, rfl⟩ := c2
      rw [if_pos ⟨rfl, rfl⟩, iw_eq rfl rfl, iw_ne (by omega), iw_ne (by omega), iw_ne (by omega), iw_ne (by omega), iw_ne (by omega), iw_ne (by omega), iw_ne (by omega), hm]
    · rw [if_neg c2, iw_ne (by omega), iw_ne (by omega), iw_ne (by omega), iw_ne (by omega), iw_ne (by omega), iw_ne (by omega), iw_ne (by omega), iw_ne (by omega)]
theorem mayM (v : Nat → Int) (hv : ∀ j, j < 5 → I32 (v j)) (ν : Mm) : (rowOk v → fX7_may (mL (v 0)) (mL (v 1)) (mL (v 2)) (mL (v 3)) (mL (v 4)) ν = some (mI 1, ν)) ∧ (¬ rowOk v → fX7_may (mL (v 0)) (mL (v 1)) (mL (v 2)) (mL (v 3)) (mL (v 4)) ν = some (mI 0, ν)) := by
  have h0 := hv 0 (by omega)
  have h1 := hv 1 (by omega)
  have h2 := hv 2 (by omega)
  have h3 := hv 3 (by omega)
  have h4 := hv 4 (by omega)
  have iff : rowOk v ↔ (0 ≤ v 0 ∧ v 0 ≤ 499) ∧ (0 ≤ v 1 ∧ v 1 ≤ 1) ∧ (0 ≤ v 2 ∧ v 2 ≤ 3) ∧ (1 ≤ v 3 ∧ v 3 ≤ 20) ∧ (1 ≤ v 4 ∧ v 4 ≤ 6) := by
    constructor
    · intro h
      exact ⟨h 0 (by omega), h 1 (by omega), h 2 (by omega), h 3 (by omega), h 4 (by omega)⟩
    · rintro ⟨a0, a1, a2, a3, a4⟩ j hj
      have : j = 0 ∨ j = 1 ∨ j = 2 ∨ j = 3 ∨ j = 4 := by omega
      rcases this with rfl | rfl | rfl | rfl | rfl
      · exact a0
      · exact a1
      · exact a2
      · exact a3
      · exact a4
  generalize v 0 = v0 at *
  generalize v 1 = v1 at *
  generalize v 2 = v2 at *
  generalize v 3 = v3 at *
  generalize v 4 = v4 at *
  constructor
  · intro h
    rw [iff] at h
    unfold fX7_may
    simp (implicitDefEqProofs := false) (maxSteps := 1000000) (disch := omega) only [h.1.1, h.1.2, h.2.1.1, h.2.1.2, h.2.2.1.1, h.2.2.1.2, h.2.2.2.1.1, h.2.2.2.1.2, h.2.2.2.2.1, h.2.2.2.2.2, ↓mm_lt_s, ↓cl_in, ↓cl_wi, ↓cl_has, ↓cl_isP, mL_le, lit_n, litL_n, mL_mI, mL_neg, mm_cl_s, mI_lt, mI_le, mI_eq, enc_at, enc_wr, enc_cp, mI_neg, mI_add, mI_sub, mI_mul, mI_ix, mm_ck_ok, mm_nz_ok, mm_bo_c, mm_bo_m0, mm_bo_m1, b01, Int.toNat_natCast, Int.reduceToNat, Int.reduceNeg, Int.reduceSub, Int.reduceAdd, Int.reduceMul, Int.reduceLT, Int.reduceLE, Int.reduceEq, ↓reduceIte, not_true, not_false_eq_true, not_true_eq_false, and_self, true_and, and_true, false_and, and_false, Decidable.not_not, stv1, stv2, stv3, stv4]
  · intro h
    rw [iff] at h
    unfold fX7_may
    by_cases c0 : 0 ≤ v0 ∧ v0 ≤ 499
    · by_cases c1 : 0 ≤ v1 ∧ v1 ≤ 1
      · by_cases c2 : 0 ≤ v2 ∧ v2 ≤ 3
        · by_cases c3 : 1 ≤ v3 ∧ v3 ≤ 20
          · have c4 : ¬ (1 ≤ v4 ∧ v4 ≤ 6) := fun h9 => h ⟨c0, c1, c2, c3, h9⟩
            simp (implicitDefEqProofs := false) (maxSteps := 1000000) (disch := omega) only [c0, c1, c2, c3, c4, ↓mm_lt_s, ↓cl_in, ↓cl_wi, ↓cl_has, ↓cl_isP, mL_le, lit_n, litL_n, mL_mI, mL_neg, mm_cl_s, mI_lt, mI_le, mI_eq, enc_at, enc_wr, enc_cp, mI_neg, mI_add, mI_sub, mI_mul, mI_ix, mm_ck_ok, mm_nz_ok, mm_bo_c, mm_bo_m0, mm_bo_m1, b01, Int.toNat_natCast, Int.reduceToNat, Int.reduceNeg, Int.reduceSub, Int.reduceAdd, Int.reduceMul, Int.reduceLT, Int.reduceLE, Int.reduceEq, ↓reduceIte, not_true, not_false_eq_true, not_true_eq_false, and_self, true_and, and_true, false_and, and_false, Decidable.not_not, stv1, stv2, stv3, stv4]
          · simp (implicitDefEqProofs := false) (maxSteps := 1000000) (disch := omega) only [c0, c1, c2, c3, ↓mm_lt_s, ↓cl_in, ↓cl_wi, ↓cl_has, ↓cl_isP, mL_le, lit_n, litL_n, mL_mI, mL_neg, mm_cl_s, mI_lt, mI_le, mI_eq, enc_at, enc_wr, enc_cp, mI_neg, mI_add, mI_sub, mI_mul, mI_ix, mm_ck_ok, mm_nz_ok, mm_bo_c, mm_bo_m0, mm_bo_m1, b01, Int.toNat_natCast, Int.reduceToNat, Int.reduceNeg, Int.reduceSub, Int.reduceAdd, Int.reduceMul, Int.reduceLT, Int.reduceLE, Int.reduceEq, ↓reduceIte, not_true, not_false_eq_true, not_true_eq_false, and_self, true_and, and_true, false_and, and_false, Decidable.not_not, stv1, stv2, stv3, stv4]
        · simp (implicitDefEqProofs := false) (maxSteps := 1000000) (disch := omega) only [c0, c1, c2, ↓mm_lt_s, ↓cl_in, ↓cl_wi, ↓cl_has, ↓cl_isP, mL_le, lit_n, litL_n, mL_mI, mL_neg, mm_cl_s, mI_lt, mI_le, mI_eq, enc_at, enc_wr, enc_cp, mI_neg, mI_add, mI_sub, mI_mul, mI_ix, mm_ck_ok, mm_nz_ok, mm_bo_c, mm_bo_m0, mm_bo_m1, b01, Int.toNat_natCast, Int.reduceToNat, Int.reduceNeg, Int.reduceSub, Int.reduceAdd, Int.reduceMul, Int.reduceLT, Int.reduceLE, Int.reduceEq, ↓reduceIte, not_true, not_false_eq_true, not_true_eq_false, and_self, true_and, and_true, false_and, and_false, Decidable.not_not, stv1, stv2, stv3, stv4]
      · simp (implicitDefEqProofs := false) (maxSteps := 1000000) (disch := omega) only [c0, c1, ↓mm_lt_s, ↓cl_in, ↓cl_wi, ↓cl_has, ↓cl_isP, mL_le, lit_n, litL_n, mL_mI, mL_neg, mm_cl_s, mI_lt, mI_le, mI_eq, enc_at, enc_wr, enc_cp, mI_neg, mI_add, mI_sub, mI_mul, mI_ix, mm_ck_ok, mm_nz_ok, mm_bo_c, mm_bo_m0, mm_bo_m1, b01, Int.toNat_natCast, Int.reduceToNat, Int.reduceNeg, Int.reduceSub, Int.reduceAdd, Int.reduceMul, Int.reduceLT, Int.reduceLE, Int.reduceEq, ↓reduceIte, not_true, not_false_eq_true, not_true_eq_false, and_self, true_and, and_true, false_and, and_false, Decidable.not_not, stv1, stv2, stv3, stv4]
    · simp (implicitDefEqProofs := false) (maxSteps := 1000000) (disch := omega) only [c0, ↓mm_lt_s, ↓cl_in, ↓cl_wi, ↓cl_has, ↓cl_isP, mL_le, lit_n, litL_n, mL_mI, mL_neg, mm_cl_s, mI_lt, mI_le, mI_eq, enc_at, enc_wr, enc_cp, mI_neg, mI_add, mI_sub, mI_mul, mI_ix, mm_ck_ok, mm_nz_ok, mm_bo_c, mm_bo_m0, mm_bo_m1, b01, Int.toNat_natCast, Int.reduceToNat, Int.reduceNeg, Int.reduceSub, Int.reduceAdd, Int.reduceMul, Int.reduceLT, Int.reduceLE, Int.reduceEq, ↓reduceIte, not_true, not_false_eq_true, not_true_eq_false, and_self, true_and, and_true, false_and, and_false, Decidable.not_not, stv1, stv2, stv3, stv4]
theorem cast0 : mI ((0 : Nat) : Int) = mI 0 := rfl
theorem q_person (a b c d e : Int) (ha : I32 a) (hb : I32 b) (hc : I32 c) (hd : I32 d) (he : I32 e) {σ τ : IM} (h : RX σ τ) : Like (fX6_person (mI a) (mI b) (mI c) (mI d) (mI e) (enc σ)) (fX7_person (mI a) (mI b) (mI c) (mI d) (mI e) (enc τ)) := by
  obtain ⟨⟨n1, n2, n3⟩, n4, n5, n6⟩ := h.now
  obtain ⟨m, hm⟩ := Int.eq_ofNat_of_zero_le n5
  obtain ⟨v, hv0, hv1, hv2, hv3, hv4⟩ : ∃ v : Nat → Int, v 0 = a ∧ v 1 = b ∧ v 2 = c ∧ v 3 = d ∧ v 4 = e := ⟨fun j => if j = 0 then a else if j = 1 then b else if j = 2 then c else if j = 3 then d else e, rfl, rfl, rfl, rfl, rfl⟩
  have hvr : ∀ j, j < 5 → I32 (v j) := fun j hj => by
    have : j = 0 ∨ j = 1 ∨ j = 2 ∨ j = 3 ∨ j = 4 := by omega
    rcases this with rfl | rfl | rfl | rfl | rfl <;> omega
  have M := mayM v hvr (enc τ)
  rw [hv0, hv1, hv2, hv3, hv4] at M
  unfold fX6_person fX7_person
  simp (implicitDefEqProofs := false) (maxSteps := 1000000) (disch := omega) only [↓mm_lt_s, ↓cl_in, ↓cl_wi, ↓cl_has, ↓cl_isP, mL_le, lit_n, litL_n, mL_mI, mL_neg, mm_cl_s, mI_lt, mI_le, mI_eq, enc_at, enc_wr, enc_cp, mI_neg, mI_add, mI_sub, mI_mul, mI_ix, mm_ck_ok, mm_nz_ok, mm_bo_c, mm_bo_m0, mm_bo_m1, b01, Int.toNat_natCast, Int.reduceToNat, Int.reduceNeg, Int.reduceSub, Int.reduceAdd, Int.reduceMul, Int.reduceLT, Int.reduceLE, Int.reduceEq, ↓reduceIte, not_true, not_false_eq_true, not_true_eq_false, and_self, true_and, and_true, false_and, and_false, Decidable.not_not, stv1, stv2, stv3, stv4]
  generalize hσ : iw (iw (iw (iw (iw σ 29 0 a) 29 1 b) 29 2 c) 29 3 d) 29 4 e = σ1
  have S1 : ∀ k j, k ≠ 29 → σ1 k j = σ k j := fun k j hk => by rw [← hσ, iw_ne (by omega), iw_ne (by omega), iw_ne (by omega), iw_ne (by omega), iw_ne (by omega)]
  have S2 : (fun j => σ1 29 (0 + j)) 0 = a ∧ (fun j => σ1 29 (0 + j)) 1 = b ∧ (fun j => σ1 29 (0 + j)) 2 = c ∧ (fun j => σ1 29 (0 + j)) 3 = d ∧ (fun j => σ1 29 (0 + j)) 4 = e := by
    subst hσ
    simp [iw]
  have S3 : ∀ j, j < 5 → σ1 29 (0 + j) = v j := fun j hj => by
    have : j = 0 ∨ j = 1 ∨ j = 2 ∨ j = 3 ∨ j = 4 := by omega
    rcases this with rfl | rfl | rfl | rfl | rfl
    · rw [hv0]; exact S2.1
    · rw [hv1]; exact S2.2.1
    · rw [hv2]; exact S2.2.2.1
    · rw [hv3]; exact S2.2.2.2.1
    · rw [hv4]; exact S2.2.2.2.2
  clear hσ S2
  have R1 : RX σ1 τ := h.cong (fun k j hk => S1 k j (by unfold keepX at hk; omega)) (fun _ _ _ => rfl)
  by_cases c1 : rowOk v
  · have c2 : rowOk (fun j => σ1 29 (0 + j)) := fun j hj => by rw [show (fun j => σ1 29 (0 + j)) j = v j from S3 j hj]; exact c1 j hj
    have E1 := may_ok (n := 30) (by omega) (by omega) c2
    rw [cast0] at E1
    rw [E1, M.1 c1]
    simp (implicitDefEqProofs := false) (maxSteps := 1000000) (disch := omega) only [↓mm_lt_s, ↓cl_in, ↓cl_wi, ↓cl_has, ↓cl_isP, mL_le, lit_n, litL_n, mL_mI, mL_neg, mm_cl_s, mI_lt, mI_le, mI_eq, enc_at, enc_wr, enc_cp, mI_neg, mI_add, mI_sub, mI_mul, mI_ix, mm_ck_ok, mm_nz_ok, mm_bo_c, mm_bo_m0, mm_bo_m1, b01, Int.toNat_natCast, Int.reduceToNat, Int.reduceNeg, Int.reduceSub, Int.reduceAdd, Int.reduceMul, Int.reduceLT, Int.reduceLE, Int.reduceEq, ↓reduceIte, not_true, not_false_eq_true, not_true_eq_false, and_self, true_and, and_true, false_and, and_false, Decidable.not_not, stv1, stv2, stv3, stv4]
    rw [room_s 1 σ1 (by omega) (by rw [S1 _ _ (by omega)]; omega), S1 1 1 (by omega)]
    by_cases c3 : m < 10
    · have E2 := enlist_s (n := 30) (by omega) (by omega) (show σ1 1 1 = (m : Int) by rw [S1 _ _ (by omega)]; omega) c3 (by omega) c2
      rw [cast0] at E2
      simp (implicitDefEqProofs := false) (maxSteps := 1000000) (disch := omega) only [↓mm_lt_s, ↓cl_in, ↓cl_wi, ↓cl_has, ↓cl_isP, mL_le, lit_n, litL_n, mL_mI, mL_neg, mm_cl_s, mI_lt, mI_le, mI_eq, enc_at, enc_wr, enc_cp, mI_neg, mI_add, mI_sub, mI_mul, mI_ix, mm_ck_ok, mm_nz_ok, mm_bo_c, mm_bo_m0, mm_bo_m1, b01, Int.toNat_natCast, Int.reduceToNat, Int.reduceNeg, Int.reduceSub, Int.reduceAdd, Int.reduceMul, Int.reduceLT, Int.reduceLE, Int.reduceEq, ↓reduceIte, not_true, not_false_eq_true, not_true_eq_false, and_self, true_and, and_true, false_and, and_false, Decidable.not_not, stv1, stv2, stv3, stv4]
      rw [E2]
      have A := add_s hm c3 v
      rw [hv0, hv1, hv2, hv3, hv4] at A
      rw [A]
      simp (implicitDefEqProofs := false) (maxSteps := 1000000) (disch := omega) only [↓mm_lt_s, ↓cl_in, ↓cl_wi, ↓cl_has, ↓cl_isP, mL_le, lit_n, litL_n, mL_mI, mL_neg, mm_cl_s, mI_lt, mI_le, mI_eq, enc_at, enc_wr, enc_cp, mI_neg, mI_add, mI_sub, mI_mul, mI_ix, mm_ck_ok, mm_nz_ok, mm_bo_c, mm_bo_m0, mm_bo_m1, b01, Int.toNat_natCast, Int.reduceToNat, Int.reduceNeg, Int.reduceSub, Int.reduceAdd, Int.reduceMul, Int.reduceLT, Int.reduceLE, Int.reduceEq, ↓reduceIte, not_true, not_false_eq_true, not_true_eq_false, and_self, true_and, and_true, false_and, and_false, Decidable.not_not, stv1, stv2, stv3, stv4]
      repeat (first | rw [if_pos (by omega)] | rw [if_neg (by omega)])
      have e1 : addX σ1 m (fun j => σ1 29 (0 + j)) = addX σ1 m v := by
        funext x y
        unfold addX
        by_cases q : x = 4 + m ∧ y < 7
        · rw [if_pos q, if_pos q]
          by_cases q2 : y < 5
          · rw [if_pos q2, if_pos q2]; exact S3 y q2
          · rw [if_neg q2, if_neg q2]
        · rw [if_neg q, if_neg q]
      rw [e1, show addX σ1 m v 1 1 = (m : Int) + 1 by rw [addX, if_neg (by omega), if_pos ⟨rfl, rfl⟩], show addM τ m v 0 1 = (m : Int) + 1 by rw [addM, if_neg (by omega), if_pos ⟨rfl, rfl⟩]]
      exact Like.mk rfl rfl (R1.add hm c3 c1)
    · simp (implicitDefEqProofs := false) (maxSteps := 1000000) (disch := omega) only [↓mm_lt_s, ↓cl_in, ↓cl_wi, ↓cl_has, ↓cl_isP, mL_le, lit_n, litL_n, mL_mI, mL_neg, mm_cl_s, mI_lt, mI_le, mI_eq, enc_at, enc_wr, enc_cp, mI_neg, mI_add, mI_sub, mI_mul, mI_ix, mm_ck_ok, mm_nz_ok, mm_bo_c, mm_bo_m0, mm_bo_m1, b01, Int.toNat_natCast, Int.reduceToNat, Int.reduceNeg, Int.reduceSub, Int.reduceAdd, Int.reduceMul, Int.reduceLT, Int.reduceLE, Int.reduceEq, ↓reduceIte, not_true, not_false_eq_true, not_true_eq_false, and_self, true_and, and_true, false_and, and_false, Decidable.not_not, stv1, stv2, stv3, stv4]
      repeat (first | rw [if_pos (by omega)] | rw [if_neg (by omega)])
      exact Like.mk rfl rfl R1
  · have c2 : ¬ rowOk (fun j => σ1 29 (0 + j)) := fun h9 => c1 fun j hj => by rw [← S3 j hj]; exact h9 j hj
    have E1 := may_no (n := 30) (by omega) (by omega) (fun j hj => by rw [S3 j hj]; exact hvr j hj) c2
    rw [cast0] at E1
    rw [E1, M.2 c1]
    simp (implicitDefEqProofs := false) (maxSteps := 1000000) (disch := omega) only [↓mm_lt_s, ↓cl_in, ↓cl_wi, ↓cl_has, ↓cl_isP, mL_le, lit_n, litL_n, mL_mI, mL_neg, mm_cl_s, mI_lt, mI_le, mI_eq, enc_at, enc_wr, enc_cp, mI_neg, mI_add, mI_sub, mI_mul, mI_ix, mm_ck_ok, mm_nz_ok, mm_bo_c, mm_bo_m0, mm_bo_m1, b01, Int.toNat_natCast, Int.reduceToNat, Int.reduceNeg, Int.reduceSub, Int.reduceAdd, Int.reduceMul, Int.reduceLT, Int.reduceLE, Int.reduceEq, ↓reduceIte, not_true, not_false_eq_true, not_true_eq_false, and_self, true_and, and_true, false_and, and_false, Decidable.not_not, stv1, stv2, stv3, stv4]
    exact Like.mk rfl rfl R1
