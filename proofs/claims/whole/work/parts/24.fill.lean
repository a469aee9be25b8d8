def ifl (σ : IM) (q lo hi : Nat) (f : Nat → Int) : IM := fun a b => if a = q ∧ lo ≤ b ∧ b < hi then f b else σ a b
theorem ifl_nil {σ : IM} {q lo hi : Nat} {f : Nat → Int} (h : hi ≤ lo) : ifl σ q lo hi f = σ := by
  funext a b
  exact if_neg (by omega)
theorem ifl_step {σ : IM} {q i hi : Nat} {f : Nat → Int} {v : Int} (h : i < hi) (hv : v = f i) : ifl (iw σ q i v) q (i + 1) hi f = ifl σ q i hi f := by
  funext a b
  unfold ifl iw
  subst hv
  by_cases e : a = q ∧ b = i
  · obtain ⟨rfl, rfl⟩ := e
    rw [if_neg (by omega), if_pos ⟨rfl, rfl⟩, if_pos (by omega)]
  · by_cases e2 : a = q ∧ i + 1 ≤ b ∧ b < hi
    · rw [if_pos e2, if_pos (by omega)]
    · rw [if_neg e2, if_neg e, if_neg (by omega)]
theorem ifl_in {σ : IM} {q lo hi : Nat} {f : Nat → Int} {b : Nat} (h1 : lo ≤ b) (h2 : b < hi) : ifl σ q lo hi f q b = f b := if_pos ⟨rfl, h1, h2⟩
theorem ifl_ne {σ : IM} {q lo hi : Nat} {f : Nat → Int} {a b : Nat} (h : ¬ (a = q ∧ lo ≤ b ∧ b < hi)) : ifl σ q lo hi f a b = σ a b := if_neg h
theorem cast_s (i : Nat) : ((i : Int) + 1) = ((i + 1 : Nat) : Int) := by omega
/-- the class's sheet begins anew -/
theorem begin_L {q : Nat} {K : Mm → Aa} {z : Int32 → Mm → Aa} : ∀ (d i n : Nat) (σ : IM), i + d = 24 → d < n → mm_lk z (fX2_begin_L12 q K) n (mI i) (enc σ) = K (enc (ifl σ q i 24 (fun _ => 0)))
  | d, i, 0, σ, _, h => absurd h (Nat.not_lt_zero d)
  | 0, i, n + 1, σ, h, _ => by
    rw [mm_lk_s]
    unfold fX2_begin_L12
    simp (implicitDefEqProofs := false) (maxSteps := 1000000) (disch := omega) only [↓mm_lt_s, ↓cl_in, ↓cl_wi, ↓cl_has, ↓cl_isP, mL_le, lit_n, litL_n, mL_mI, mL_neg, mm_cl_s, mI_lt, mI_le, mI_eq, enc_at, enc_wr, enc_cp, mI_neg, mI_add, mI_sub, mI_mul, mI_ix, mm_ck_ok, mm_nz_ok, mm_bo_c, mm_bo_m0, mm_bo_m1, b01, Int.toNat_natCast, Int.reduceToNat, Int.reduceNeg, Int.reduceSub, Int.reduceAdd, Int.reduceMul, Int.reduceLT, Int.reduceLE, Int.reduceEq, ↓reduceIte, not_true, not_false_eq_true, not_true_eq_false, and_self, true_and, and_true, false_and, and_false, Decidable.not_not, stv1, stv2, stv3, stv4]
    repeat (first | rw [if_pos (by omega)] | rw [if_neg (by omega)])
    rw [ifl_nil (by omega)]
  | d + 1, i, n + 1, σ, h, h2 => by
    rw [mm_lk_s, fX2_begin_L12]
    simp (implicitDefEqProofs := false) (maxSteps := 1000000) (disch := omega) only [cast_s, ↓mm_lt_s, ↓cl_in, ↓cl_wi, ↓cl_has, ↓cl_isP, mL_le, lit_n, litL_n, mL_mI, mL_neg, mm_cl_s, mI_lt, mI_le, mI_eq, enc_at, enc_wr, enc_cp, mI_neg, mI_add, mI_sub, mI_mul, mI_ix, mm_ck_ok, mm_nz_ok, mm_bo_c, mm_bo_m0, mm_bo_m1, b01, Int.toNat_natCast, Int.reduceToNat, Int.reduceNeg, Int.reduceSub, Int.reduceAdd, Int.reduceMul, Int.reduceLT, Int.reduceLE, Int.reduceEq, ↓reduceIte, not_true, not_false_eq_true, not_true_eq_false, and_self, true_and, and_true, false_and, and_false, Decidable.not_not, stv1, stv2, stv3, stv4]
    repeat (first | rw [if_pos (by omega)] | rw [if_neg (by omega)])
    rw [begin_L d (i + 1) n _ (by omega) (by omega), ifl_step (f := fun _ => 0) (v := 0) (by omega) rfl]
theorem begin_s (k q : Nat) (a b : Int) (σ : IM) : fX2_begin k q (mI a) (mI b) (enc σ) = some (mI 0, enc (ifl (iw (iw σ k 0 a) k 1 b) q 0 24 (fun _ => 0))) := by
  unfold fX2_begin
  generalize hfu : mm_fu = NF; have hNF : 4096 ≤ NF := by rw [← hfu]; exact Nat.le_refl _
  simp (implicitDefEqProofs := false) (maxSteps := 1000000) (disch := omega) only [↓mm_lt_s, ↓cl_in, ↓cl_wi, ↓cl_has, ↓cl_isP, mL_le, lit_n, litL_n, mL_mI, mL_neg, mm_cl_s, mI_lt, mI_le, mI_eq, enc_at, enc_wr, enc_cp, mI_neg, mI_add, mI_sub, mI_mul, mI_ix, mm_ck_ok, mm_nz_ok, mm_bo_c, mm_bo_m0, mm_bo_m1, b01, Int.toNat_natCast, Int.reduceToNat, Int.reduceNeg, Int.reduceSub, Int.reduceAdd, Int.reduceMul, Int.reduceLT, Int.reduceLE, Int.reduceEq, ↓reduceIte, not_true, not_false_eq_true, not_true_eq_false, and_self, true_and, and_true, false_and, and_false, Decidable.not_not, stv1, stv2, stv3, stv4]
  rw [show mI 0 = mI ((0 : Nat) : Int) from rfl, begin_L 24 0 NF _ (by omega) (by omega)]
theorem sheetM_L {s : Nat} (hs : s < 4) {K : Mm → Aa} {z : Int32 → Mm → Aa} : ∀ (d i n : Nat) (τ : IM), i + d = 24 → d < n → mm_lk z (fX7_sheet_L40 (mI s) K) n (mI i) (enc τ) = K (enc (ifl τ 27 (24 * s + i) (24 * s + 24) (fun _ => 0)))
  | d, i, 0, τ, _, h => absurd h (Nat.not_lt_zero d)
  | 0, i, n + 1, τ, h, _ => by
    rw [mm_lk_s]
    unfold fX7_sheet_L40
    simp (implicitDefEqProofs := false) (maxSteps := 1000000) (disch := omega) only [↓mm_lt_s, ↓cl_in, ↓cl_wi, ↓cl_has, ↓cl_isP, mL_le, lit_n, litL_n, mL_mI, mL_neg, mm_cl_s, mI_lt, mI_le, mI_eq, enc_at, enc_wr, enc_cp, mI_neg, mI_add, mI_sub, mI_mul, mI_ix, mm_ck_ok, mm_nz_ok, mm_bo_c, mm_bo_m0, mm_bo_m1, b01, Int.toNat_natCast, Int.reduceToNat, Int.reduceNeg, Int.reduceSub, Int.reduceAdd, Int.reduceMul, Int.reduceLT, Int.reduceLE, Int.reduceEq, ↓reduceIte, not_true, not_false_eq_true, not_true_eq_false, and_self, true_and, and_true, false_and, and_false, Decidable.not_not, stv1, stv2, stv3, stv4]
    repeat (first | rw [if_pos (by omega)] | rw [if_neg (by omega)])
    rw [ifl_nil (by omega)]
  | d + 1, i, n + 1, τ, h, h2 => by
    have e6 : (24 * (s : Int) + (i : Int)).toNat = 24 * s + i := by omega
    rw [mm_lk_s, fX7_sheet_L40]
    simp (implicitDefEqProofs := false) (maxSteps := 1000000) (disch := omega) only [cast_s, e6, ↓mm_lt_s, ↓cl_in, ↓cl_wi, ↓cl_has, ↓cl_isP, mL_le, lit_n, litL_n, mL_mI, mL_neg, mm_cl_s, mI_lt, mI_le, mI_eq, enc_at, enc_wr, enc_cp, mI_neg, mI_add, mI_sub, mI_mul, mI_ix, mm_ck_ok, mm_nz_ok, mm_bo_c, mm_bo_m0, mm_bo_m1, b01, Int.toNat_natCast, Int.reduceToNat, Int.reduceNeg, Int.reduceSub, Int.reduceAdd, Int.reduceMul, Int.reduceLT, Int.reduceLE, Int.reduceEq, ↓reduceIte, not_true, not_false_eq_true, not_true_eq_false, and_self, true_and, and_true, false_and, and_false, Decidable.not_not, stv1, stv2, stv3, stv4]
    repeat (first | rw [if_pos (by omega)] | rw [if_neg (by omega)])
    rw [sheetM_L hs d (i + 1) n _ (by omega) (by omega), ← Nat.add_assoc, ifl_step (f := fun _ => 0) (v := 0) (by omega) rfl]
theorem isSheet_s (s l : Int) (hs : I32 s) (hl : I32 l) (ν : Mm) : fX7_isSheet (mI s) (mI l) ν = some (if (0 ≤ s ∧ s ≤ 3) ∧ (0 ≤ l ∧ l ≤ 2) then mI 1 else mI 0, ν) := by
  unfold fX7_isSheet
  simp (implicitDefEqProofs := false) (maxSteps := 1000000) (disch := omega) only [↓mm_lt_s, ↓cl_in, ↓cl_wi, ↓cl_has, ↓cl_isP, mL_le, lit_n, litL_n, mL_mI, mL_neg, mm_cl_s, mI_lt, mI_le, mI_eq, enc_at, enc_wr, enc_cp, mI_neg, mI_add, mI_sub, mI_mul, mI_ix, mm_ck_ok, mm_nz_ok, mm_bo_c, mm_bo_m0, mm_bo_m1, b01, Int.toNat_natCast, Int.reduceToNat, Int.reduceNeg, Int.reduceSub, Int.reduceAdd, Int.reduceMul, Int.reduceLT, Int.reduceLE, Int.reduceEq, ↓reduceIte, not_true, not_false_eq_true, not_true_eq_false, and_self, true_and, and_true, false_and, and_false, Decidable.not_not, stv1, stv2, stv3, stv4]
  by_cases c1 : 0 ≤ s ∧ s ≤ 3
  · by_cases c2 : 0 ≤ l ∧ l ≤ 2
    · repeat (first | rw [if_pos (by omega)] | rw [if_neg (by omega)])
    · repeat (first | rw [if_pos (by omega)] | rw [if_neg (by omega)])
  · repeat (first | rw [if_pos (by omega)] | rw [if_neg (by omega)])
/-- the parts of the relation that a change of the sheets leaves -/
theorem RX.sheets {σ τ σ' τ' : IM} (h : RX σ τ) (hx : ∀ k j, k < 49 → σ' k j = σ k j) (hm : ∀ k j, k < 25 → τ' k j = τ k j) (h4 : ∀ s, s < 4 → HRel σ' τ' s) : RX σ' τ' := by
  obtain ⟨a1, a2, a3, -⟩ := h
  exact ⟨a1.cong (hm _ _ (by omega)) (hm _ _ (by omega)) (fun j => hx _ _ (by omega)) (fun j => hx _ _ (by omega)) (fun p j hp => hx _ _ (by omega)) (fun i => hm _ _ (by omega)) (fun i => hm _ _ (by omega)), a2.cong (hx _ _ (by omega)) (hm _ _ (by omega)) (hm _ _ (by omega)) (hm _ _ (by omega)) (fun j => hx _ _ (by omega)) (fun j => hx _ _ (by omega)) (fun p j hp => hx _ _ (by omega)) (fun i => hm _ _ (by omega)) (fun i => hm _ _ (by omega)), a3.cong (hx _ _ (by omega)) (fun i => hx _ _ (by omega)) (hm _ _ (by omega)) (fun i => hm _ _ (by omega)), h4⟩
theorem q_sheet (a b c : Int) (ha : I32 a) (hb : I32 b) (hc : I32 c) {σ τ : IM} (h : RX σ τ) : Like (fX6_sheet (mI a) (mI b) (mI c) (enc σ)) (fX7_sheet (mI a) (mI b) (mI c) (enc τ)) := by
  unfold fX6_sheet fX7_sheet
  generalize hfu : mm_fu = NF; have hNF : 4096 ≤ NF := by rw [← hfu]; exact Nat.le_refl _
  rw [isSheet_s a b ha hb]
  simp (implicitDefEqProofs := false) (maxSteps := 1000000) (disch := omega) only [↓mm_lt_s, ↓cl_in, ↓cl_wi, ↓cl_has, ↓cl_isP, mL_le, lit_n, litL_n, mL_mI, mL_neg, mm_cl_s, mI_lt, mI_le, mI_eq, enc_at, enc_wr, enc_cp, mI_neg, mI_add, mI_sub, mI_mul, mI_ix, mm_ck_ok, mm_nz_ok, mm_bo_c, mm_bo_m0, mm_bo_m1, b01, Int.toNat_natCast, Int.reduceToNat, Int.reduceNeg, Int.reduceSub, Int.reduceAdd, Int.reduceMul, Int.reduceLT, Int.reduceLE, Int.reduceEq, ↓reduceIte, not_true, not_false_eq_true, not_true_eq_false, and_self, true_and, and_true, false_and, and_false, Decidable.not_not, stv1, stv2, stv3, stv4]
  by_cases c1 : 0 ≤ a ∧ a < 4
  · by_cases c2 : 0 ≤ b ∧ b ≤ 2
    · by_cases c3 : c ≤ 24
      · by_cases c4 : 0 ≤ c
        · obtain ⟨s, rfl⟩ := Int.eq_ofNat_of_zero_le c1.1
          have hs : s < 4 := by omega
          simp (implicitDefEqProofs := false) (maxSteps := 1000000) (disch := omega) only [↓mm_lt_s, ↓cl_in, ↓cl_wi, ↓cl_has, ↓cl_isP, mL_le, lit_n, litL_n, mL_mI, mL_neg, mm_cl_s, mI_lt, mI_le, mI_eq, enc_at, enc_wr, enc_cp, mI_neg, mI_add, mI_sub, mI_mul, mI_ix, mm_ck_ok, mm_nz_ok, mm_bo_c, mm_bo_m0, mm_bo_m1, b01, Int.toNat_natCast, Int.reduceToNat, Int.reduceNeg, Int.reduceSub, Int.reduceAdd, Int.reduceMul, Int.reduceLT, Int.reduceLE, Int.reduceEq, ↓reduceIte, not_true, not_false_eq_true, not_true_eq_false, and_self, true_and, and_true, false_and, and_false, Decidable.not_not, stv1, stv2, stv3, stv4]
          rw [begin_s]
          repeat (first | rw [if_pos (by omega)] | rw [if_neg (by omega)])
          simp (implicitDefEqProofs := false) (maxSteps := 1000000) (disch := omega) only [↓mm_lt_s, ↓cl_in, ↓cl_wi, ↓cl_has, ↓cl_isP, mL_le, lit_n, litL_n, mL_mI, mL_neg, mm_cl_s, mI_lt, mI_le, mI_eq, enc_at, enc_wr, enc_cp, mI_neg, mI_add, mI_sub, mI_mul, mI_ix, mm_ck_ok, mm_nz_ok, mm_bo_c, mm_bo_m0, mm_bo_m1, b01, Int.toNat_natCast, Int.reduceToNat, Int.reduceNeg, Int.reduceSub, Int.reduceAdd, Int.reduceMul, Int.reduceLT, Int.reduceLE, Int.reduceEq, ↓reduceIte, not_true, not_false_eq_true, not_true_eq_false, and_self, true_and, and_true, false_and, and_false, Decidable.not_not, stv1, stv2, stv3, stv4]
          rw [show mI 0 = mI ((0 : Nat) : Int) from rfl, sheetM_L hs 24 0 NF _ (by omega) (by omega)]
          refine Like.mk rfl rfl (h.sheets (fun k j hk => ?_) (fun k j hk => ?_) (fun t ht => ?_))
          · rw [ifl_ne (by omega), iw_ne (by omega), iw_ne (by omega)]
          · rw [ifl_ne (by omega), iw_ne (by omega), iw_ne (by omega)]
          · by_cases e : t = s
            · subst e
              refine ⟨?_, ?_, ?_, fun _ => ⟨⟨?_, ?_, ?_⟩, fun i hi => ?_⟩⟩
              · rw [ifl_ne (by omega), ifl_ne (by omega), iw_ne (by omega), iw_eq rfl rfl, iw_ne (by omega), iw_eq rfl rfl]
              · rw [ifl_ne (by omega), iw_ne (by omega), iw_eq rfl rfl]; omega
              · rw [ifl_ne (by omega), iw_ne (by omega), iw_eq rfl rfl]; omega
              · rw [ifl_ne (by omega), ifl_ne (by omega), iw_eq rfl rfl, iw_eq rfl rfl]
              · rw [ifl_ne (by omega), iw_eq rfl rfl]; omega
              · rw [ifl_ne (by omega), iw_eq rfl rfl]; omega
              · rw [ifl_in (by omega) (by omega), ifl_in (by omega) (by omega)]
                exact ⟨rfl, by omega, by omega⟩
            · refine (h.2.2.2 t ht).cong (fun j => ?_) (fun i => ?_) ?_ ?_ (fun i hi => ?_)
              · rw [ifl_ne (by omega), iw_ne (by omega), iw_ne (by omega)]
              · rw [ifl_ne (by omega), iw_ne (by omega), iw_ne (by omega)]
              · rw [ifl_ne (by omega), iw_ne (by omega), iw_ne (by omega)]
              · rw [ifl_ne (by omega), iw_ne (by omega), iw_ne (by omega)]
              · rw [ifl_ne (by omega), iw_ne (by omega), iw_ne (by omega)]
        · repeat (first | rw [if_pos (by omega)] | rw [if_neg (by omega)])
          exact Like.mk rfl rfl h
      · repeat (first | rw [if_pos (by omega)] | rw [if_neg (by omega)])
        exact Like.mk rfl rfl h
    · by_cases c3 : b < 0
      · repeat (first | rw [if_pos (by omega)] | rw [if_neg (by omega)])
        exact Like.mk rfl rfl h
      · repeat (first | rw [if_pos (by omega)] | rw [if_neg (by omega)])
        exact Like.mk rfl rfl h
  · repeat (first | rw [if_pos (by omega)] | rw [if_neg (by omega)])
    exact Like.mk rfl rfl h
theorem q_drop (a : Int) (ha : I32 a) {σ τ : IM} (h : RX σ τ) : Like (fX6_drop (mI a) (enc σ)) (fX7_drop (mI a) (enc τ)) := by
  unfold fX6_drop fX7_drop
  simp (implicitDefEqProofs := false) (maxSteps := 1000000) (disch := omega) only [↓mm_lt_s, ↓cl_in, ↓cl_wi, ↓cl_has, ↓cl_isP, mL_le, lit_n, litL_n, mL_mI, mL_neg, mm_cl_s, mI_lt, mI_le, mI_eq, enc_at, enc_wr, enc_cp, mI_neg, mI_add, mI_sub, mI_mul, mI_ix, mm_ck_ok, mm_nz_ok, mm_bo_c, mm_bo_m0, mm_bo_m1, b01, Int.toNat_natCast, Int.reduceToNat, Int.reduceNeg, Int.reduceSub, Int.reduceAdd, Int.reduceMul, Int.reduceLT, Int.reduceLE, Int.reduceEq, ↓reduceIte, not_true, not_false_eq_true, not_true_eq_false, and_self, true_and, and_true, false_and, and_false, Decidable.not_not, stv1, stv2, stv3, stv4]
  by_cases c1 : 0 ≤ a ∧ a < 4
  · obtain ⟨s, rfl⟩ := Int.eq_ofNat_of_zero_le c1.1
    have hs : s < 4 := by omega
    obtain ⟨b1, b2, b3, b4⟩ := h.2.2.2 s hs
    simp (implicitDefEqProofs := false) (maxSteps := 1000000) (disch := omega) only [b1, ↓mm_lt_s, ↓cl_in, ↓cl_wi, ↓cl_has, ↓cl_isP, mL_le, lit_n, litL_n, mL_mI, mL_neg, mm_cl_s, mI_lt, mI_le, mI_eq, enc_at, enc_wr, enc_cp, mI_neg, mI_add, mI_sub, mI_mul, mI_ix, mm_ck_ok, mm_nz_ok, mm_bo_c, mm_bo_m0, mm_bo_m1, b01, Int.toNat_natCast, Int.reduceToNat, Int.reduceNeg, Int.reduceSub, Int.reduceAdd, Int.reduceMul, Int.reduceLT, Int.reduceLE, Int.reduceEq, ↓reduceIte, not_true, not_false_eq_true, not_true_eq_false, and_self, true_and, and_true, false_and, and_false, Decidable.not_not, stv1, stv2, stv3, stv4]
    by_cases c2 : 0 ≤ τ 25 s
    · obtain ⟨⟨d1, d2, d3⟩, d4⟩ := b4 c2
      rw [begin_s]
      repeat (first | rw [if_pos (by omega)] | rw [if_neg (by omega)])
      simp (implicitDefEqProofs := false) (maxSteps := 1000000) (disch := omega) only [d1, ↓mm_lt_s, ↓cl_in, ↓cl_wi, ↓cl_has, ↓cl_isP, mL_le, lit_n, litL_n, mL_mI, mL_neg, mm_cl_s, mI_lt, mI_le, mI_eq, enc_at, enc_wr, enc_cp, mI_neg, mI_add, mI_sub, mI_mul, mI_ix, mm_ck_ok, mm_nz_ok, mm_bo_c, mm_bo_m0, mm_bo_m1, b01, Int.toNat_natCast, Int.reduceToNat, Int.reduceNeg, Int.reduceSub, Int.reduceAdd, Int.reduceMul, Int.reduceLT, Int.reduceLE, Int.reduceEq, ↓reduceIte, not_true, not_false_eq_true, not_true_eq_false, and_self, true_and, and_true, false_and, and_false, Decidable.not_not, stv1, stv2, stv3, stv4]
      rw [iw_ne (by omega)]
      refine Like.mk rfl rfl (h.sheets (fun k j hk => ?_) (fun k j hk => ?_) (fun t ht => ?_))
      · rw [ifl_ne (by omega), iw_ne (by omega), iw_ne (by omega)]
      · rw [iw_ne (by omega)]
      · by_cases e : t = s
        · subst e
          refine ⟨?_, ?_, ?_, fun hq => ?_⟩
          · rw [ifl_ne (by omega), iw_ne (by omega), iw_eq rfl rfl, iw_eq rfl rfl]
          · rw [iw_eq rfl rfl]; omega
          · rw [iw_eq rfl rfl]; omega
          · rw [iw_eq rfl rfl] at hq; omega
        · refine (h.2.2.2 t ht).cong (fun j => ?_) (fun i => ?_) ?_ ?_ (fun i hi => ?_)
          · rw [ifl_ne (by omega), iw_ne (by omega), iw_ne (by omega)]
          · rw [ifl_ne (by omega), iw_ne (by omega), iw_ne (by omega)]
          · rw [iw_ne (by omega)]
          · rw [iw_ne (by omega)]
          · rw [iw_ne (by omega)]
    · repeat (first | rw [if_pos (by omega)] | rw [if_neg (by omega)])
      exact Like.mk rfl rfl h
  · repeat (first | rw [if_pos (by omega)] | rw [if_neg (by omega)])
    exact Like.mk rfl rfl h
