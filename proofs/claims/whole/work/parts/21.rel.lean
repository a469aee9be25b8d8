/-! how the two memories hang together -/
abbrev I32 (z : Int) : Prop := -2147483648 ≤ z ∧ z < 2147483648
def lawLo (i : Nat) : Int := [0, 0, 1, 0, 0, 0].getD i 0
def lawHi (i : Nat) : Int := [9, 2, 60, 50, 99, 200].getD i 0
def tolLo (i : Nat) : Int := [0, 0, 0, 1, 1, 0].getD i 0
def tolHi (i : Nat) : Int := [499, 1, 3, 20, 6, 60].getD i 0
/-- a state of the class (its first object b) and of the reference (planks pl, people mn, laws at l, people at q) -/
def SRel (σ τ : IM) (b : Nat) (pl mn : Int) (l q : Nat) : Prop :=
  (σ b 0 = pl ∧ 1 ≤ pl ∧ pl ≤ 400) ∧ (σ b 1 = mn ∧ 0 ≤ mn ∧ mn ≤ 10) ∧
  (∀ i, i < 6 → σ (b + 1) i = τ l i ∧ lawLo i ≤ τ l i ∧ τ l i ≤ lawHi i) ∧
  (∀ p : Nat, (p : Int) < mn → (∀ j, j < 6 → σ (b + 3 + p) j = τ q (7 * p + j) ∧ tolLo j ≤ τ q (7 * p + j) ∧ τ q (7 * p + j) ≤ tolHi j) ∧ τ q (7 * p + 6) = (if σ (b + 3 + p) 6 < 0 then -4 else σ (b + 3 + p) 6) ∧ -1 ≤ σ (b + 3 + p) 6 ∧ σ (b + 3 + p) 6 < mn)
def TRel (σ τ : IM) : Prop := (σ 27 0 = τ 0 5 ∧ 0 ≤ τ 0 5 ∧ τ 0 5 ≤ 80) ∧ ∀ i : Nat, (i : Int) < τ 0 5 → σ 28 i = τ 3 i ∧ 32 ≤ τ 3 i ∧ τ 3 i ≤ 126
def HRel (σ τ : IM) (s : Nat) : Prop := σ (49 + s) 0 = τ 25 s ∧ -1 ≤ τ 25 s ∧ τ 25 s ≤ 2 ∧ (0 ≤ τ 25 s → (σ (49 + s) 1 = τ 26 s ∧ 0 ≤ τ 26 s ∧ τ 26 s ≤ 24) ∧ ∀ i, i < 24 → σ (53 + s) i = τ 27 (24 * s + i) ∧ I32 (τ 27 (24 * s + i)))
def KRel (σ τ : IM) : Prop := σ 0 2 = τ 0 35 ∧ (τ 0 35 = 0 ∨ (τ 0 35 = 1 ∧ SRel σ τ 14 (τ 0 39) (τ 0 38) 24 23))
def RX (σ τ : IM) : Prop := SRel σ τ 1 (τ 0 3) (τ 0 1) 2 1 ∧ KRel σ τ ∧ TRel σ τ ∧ ∀ s, s < 4 → HRel σ τ s
/-- both answer alike, and hang together again -/
def Like (o o' : Aa) : Prop := ∃ (r : Int) (σ τ : IM), o = some (mI r, enc σ) ∧ o' = some (mI r, enc τ) ∧ RX σ τ
theorem Like.mk {o o' : Aa} {r : Int} {σ τ : IM} (h1 : o = some (mI r, enc σ)) (h2 : o' = some (mI r, enc τ)) (h : RX σ τ) : Like o o' := ⟨r, σ, τ, h1, h2, h⟩
/-- cells that the relation speaks of -/
def keepX (k j : Nat) : Prop := k < 27 ∨ (k = 27 ∧ j = 0) ∨ k = 28 ∨ 49 ≤ k
def keepM (k j : Nat) : Prop := (k = 0 ∧ (j = 1 ∨ j = 3 ∨ j = 5 ∨ j = 35 ∨ j = 38 ∨ j = 39)) ∨ (1 ≤ k ∧ k ≤ 3) ∨ 23 ≤ k
theorem SRel.cong {σ τ σ' τ' : IM} {b : Nat} {pl mn pl' mn' : Int} {l q : Nat} (h : SRel σ τ b pl mn l q) (hp : pl' = pl) (hm : mn' = mn) (h1 : ∀ j, σ' b j = σ b j) (h2 : ∀ i, σ' (b + 1) i = σ (b + 1) i) (h3 : ∀ p j, p < 10 → σ' (b + 3 + p) j = σ (b + 3 + p) j) (h4 : ∀ i, τ' l i = τ l i) (h5 : ∀ i, τ' q i = τ q i) : SRel σ' τ' b pl' mn' l q := by
  subst hp
  subst hm
  obtain ⟨a1, a2, a3, a4⟩ := h
  refine ⟨by rw [h1]; exact a1, by rw [h1]; exact a2, fun i hi => by rw [h2, h4]; exact a3 i hi, fun p hp => ?_⟩
  have hp10 : p < 10 := by omega
  obtain ⟨b1, b2, b3⟩ := a4 p hp
  refine ⟨fun j hj => by rw [h3 p j hp10, h5]; exact b1 j hj, by rw [h3 p 6 hp10, h5]; exact b2, by rw [h3 p 6 hp10]; exact b3⟩
theorem TRel.cong {σ τ σ' τ' : IM} (h : TRel σ τ) (h1 : σ' 27 0 = σ 27 0) (h2 : ∀ i, σ' 28 i = σ 28 i) (h3 : τ' 0 5 = τ 0 5) (h4 : ∀ i, τ' 3 i = τ 3 i) : TRel σ' τ' := by
  obtain ⟨a1, a2⟩ := h
  refine ⟨by rw [h1, h3]; exact a1, fun i hi => ?_⟩
  rw [h3] at hi
  rw [h2, h4]
  exact a2 i hi
theorem HRel.cong {σ τ σ' τ' : IM} {s : Nat} (h : HRel σ τ s) (h1 : ∀ j, σ' (49 + s) j = σ (49 + s) j) (h2 : ∀ i, σ' (53 + s) i = σ (53 + s) i) (h3 : τ' 25 s = τ 25 s) (h4 : τ' 26 s = τ 26 s) (h5 : ∀ i, i < 24 → τ' 27 (24 * s + i) = τ 27 (24 * s + i)) : HRel σ' τ' s := by
  obtain ⟨b1, b2, b3, b4⟩ := h
  refine ⟨by rw [h1, h3]; exact b1, by rw [h3]; exact b2, by rw [h3]; exact b3, fun h => ?_⟩
  rw [h3] at h
  obtain ⟨c1, c2⟩ := b4 h
  refine ⟨by rw [h1, h4]; exact c1, fun i hi => ?_⟩
  rw [h2, h5 i hi]
  exact c2 i hi
theorem KRel.cong {σ τ σ' τ' : IM} (h : KRel σ τ) (h0 : σ' 0 2 = σ 0 2) (h35 : τ' 0 35 = τ 0 35) (h38 : τ' 0 38 = τ 0 38) (h39 : τ' 0 39 = τ 0 39) (h1 : ∀ j, σ' 14 j = σ 14 j) (h2 : ∀ i, σ' 15 i = σ 15 i) (h3 : ∀ p j, p < 10 → σ' (17 + p) j = σ (17 + p) j) (h4 : ∀ i, τ' 24 i = τ 24 i) (h5 : ∀ i, τ' 23 i = τ 23 i) : KRel σ' τ' := by
  obtain ⟨a1, a2⟩ := h
  refine ⟨by rw [h0, h35]; exact a1, ?_⟩
  rw [h35]
  rcases a2 with h | ⟨h, h6⟩
  · exact Or.inl h
  · exact Or.inr ⟨h, h6.cong h39 h38 h1 h2 h3 h4 h5⟩
theorem RX.cong {σ τ σ' τ' : IM} (h : RX σ τ) (hx : ∀ k j, keepX k j → σ' k j = σ k j) (hm : ∀ k j, keepM k j → τ' k j = τ k j) : RX σ' τ' := by
  obtain ⟨a1, a2, a3, a4⟩ := h
  have X1 : ∀ k j, k < 27 → σ' k j = σ k j := fun k j h => hx k j (Or.inl h)
  have X2 : ∀ k j, 49 ≤ k → σ' k j = σ k j := fun k j h => hx k j (Or.inr (Or.inr (Or.inr h)))
  have M0 : ∀ j, (j = 1 ∨ j = 3 ∨ j = 5 ∨ j = 35 ∨ j = 38 ∨ j = 39) → τ' 0 j = τ 0 j := fun j h => hm 0 j (Or.inl ⟨rfl, h⟩)
  have M1 : ∀ k j, 1 ≤ k ∧ k ≤ 3 → τ' k j = τ k j := fun k j h => hm k j (Or.inr (Or.inl h))
  have M2 : ∀ k j, 23 ≤ k → τ' k j = τ k j := fun k j h => hm k j (Or.inr (Or.inr h))
  refine ⟨a1.cong (M0 3 (by omega)) (M0 1 (by omega)) (fun j => X1 _ _ (by omega)) (fun j => X1 _ _ (by omega)) (fun p j hp => X1 _ _ (by omega)) (fun i => M1 _ _ (by omega)) (fun i => M1 _ _ (by omega)), a2.cong (X1 _ _ (by omega)) (M0 35 (by omega)) (M0 38 (by omega)) (M0 39 (by omega)) (fun j => X1 _ _ (by omega)) (fun j => X1 _ _ (by omega)) (fun p j hp => X1 _ _ (by omega)) (fun i => M2 _ _ (by omega)) (fun i => M2 _ _ (by omega)), a3.cong (hx 27 0 (Or.inr (Or.inl ⟨rfl, rfl⟩))) (fun i => hx _ _ (Or.inr (Or.inr (Or.inl rfl)))) (M0 5 (by omega)) (fun i => M1 _ _ (by omega)), fun s hs => (a4 s hs).cong (fun j => X2 _ _ (by omega)) (fun i => X2 _ _ (by omega)) (M2 _ _ (by omega)) (M2 _ _ (by omega)) (fun i _ => M2 _ _ (by omega))⟩
/-! small functions -/
theorem mm_bo_m0 {E : Aa} : mm_bo (mI 0) E = E := rfl
theorem mm_bo_m1 {E : Aa} : mm_bo (mI 1) E = E := rfl
theorem mm_bo_c {c : Prop} [Decidable c] {E : Aa} : mm_bo (if c then mI 1 else mI 0) E = E := by split <;> rfl
theorem b01 {c : Prop} [Decidable c] : ((if c then mI 1 else mI 0) = mI 0) = ¬ c := by
  by_cases h : c
  · simp only [h, if_true, not_true]
    exact eq_false (by decide)
  · simp [h]
theorem stv1 (i : Nat) : (mm_stV 1).getD i (mI 0) = mI (lawLo i) := match i with
  | 0 => rfl
  | 1 => rfl
  | 2 => rfl
  | 3 => rfl
  | 4 => rfl
  | 5 => rfl
  | _ + 6 => rfl
theorem stv2 (i : Nat) : (mm_stV 2).getD i (mI 0) = mI (lawHi i) := match i with
  | 0 => rfl
  | 1 => rfl
  | 2 => rfl
  | 3 => rfl
  | 4 => rfl
  | 5 => rfl
  | _ + 6 => rfl
theorem stv3 (i : Nat) : (mm_stV 3).getD i (mI 0) = mI (tolLo i) := match i with
  | 0 => rfl
  | 1 => rfl
  | 2 => rfl
  | 3 => rfl
  | 4 => rfl
  | 5 => rfl
  | _ + 6 => rfl
theorem stv4 (i : Nat) : (mm_stV 4).getD i (mI 0) = mI (tolHi i) := match i with
  | 0 => rfl
  | 1 => rfl
  | 2 => rfl
  | 3 => rfl
  | 4 => rfl
  | 5 => rfl
  | _ + 6 => rfl
theorem lawB (i : Nat) : 0 ≤ lawLo i ∧ lawHi i ≤ 200 := match i with
  | 0 => by decide
  | 1 => by decide
  | 2 => by decide
  | 3 => by decide
  | 4 => by decide
  | 5 => by decide
  | _ + 6 => by show (0 : Int) ≤ 0 ∧ (0 : Int) ≤ 200; decide
theorem tolB (i : Nat) : 0 ≤ tolLo i ∧ tolLo i ≤ 1 ∧ 0 ≤ tolHi i ∧ tolHi i ≤ 499 := match i with
  | 0 => by decide
  | 1 => by decide
  | 2 => by decide
  | 3 => by decide
  | 4 => by decide
  | 5 => by decide
  | _ + 6 => by show (0 : Int) ≤ 0 ∧ (0 : Int) ≤ 1 ∧ (0 : Int) ≤ 0 ∧ (0 : Int) ≤ 499; decide
theorem lawB2 (i : Nat) : lawLo i ≤ 1 ∧ 0 ≤ lawHi i := match i with
  | 0 => by decide
  | 1 => by decide
  | 2 => by decide
  | 3 => by decide
  | 4 => by decide
  | 5 => by decide
  | _ + 6 => by show (0 : Int) ≤ 1 ∧ (0 : Int) ≤ 0; decide
theorem mL_le {a b : Int} (h1 : -9223372036854775808 ≤ a) (h2 : a < 9223372036854775808) (h3 : -9223372036854775808 ≤ b) (h4 : b < 9223372036854775808) : (mL a ≤ mL b) = (a ≤ b) := by
  rw [Int64.le_iff_toInt_le, mL_toInt h1 h2, mL_toInt h3 h4]
theorem in_raw (a b c : Int64) (ν : Mm) : fX7_in a b c ν = some (if b ≤ a ∧ a ≤ c then 1 else 0, ν) := by
  have ha := And.intro (Int64.le_toInt a) (Int64.toInt_lt a)
  have hb := And.intro (Int64.le_toInt b) (Int64.toInt_lt b)
  have hc := And.intro (Int64.le_toInt c) (Int64.toInt_lt c)
  have h := in_s a.toInt b.toInt c.toInt ν (by omega) (by omega) (by omega) (by omega) (by omega) (by omega)
  rw [mL_of, mL_of, mL_of] at h
  rw [h]
  simp only [Int64.le_iff_toInt_le]
theorem cl_in (a b c : Int64) (ν : Mm) (k : Int32 → Mm → Aa) : mm_cl (fX7_in a b c ν) k = k (if b ≤ a ∧ a ≤ c then 1 else 0) ν := by rw [in_raw]; rfl
theorem within_s (x e : Int32) (μ : Mm) : fX6_isWithin x e μ = some (if 0 ≤ x ∧ x < e then 1 else 0, μ) := by
  unfold fX6_isWithin
  simp only [mm_lt_s]
  by_cases a : x < 0
  · have : ¬ 0 ≤ x := by rw [Int32.lt_iff_toInt_lt] at a; rw [Int32.le_iff_toInt_le]; omega
    simp [a, this, mm_bo_0]
  · have a2 : 0 ≤ x := by rw [Int32.lt_iff_toInt_lt] at a; rw [Int32.le_iff_toInt_le]; omega
    by_cases b : e ≤ x
    · have : ¬ x < e := by rw [Int32.le_iff_toInt_le] at b; rw [Int32.lt_iff_toInt_lt]; omega
      simp [a, a2, b, this, mm_bo_0]
    · have : x < e := by rw [Int32.le_iff_toInt_le] at b; rw [Int32.lt_iff_toInt_lt]; omega
      simp [a, a2, b, this, mm_bo_1]
theorem cl_wi (x e : Int32) (μ : Mm) (k : Int32 → Mm → Aa) : mm_cl (fX6_isWithin x e μ) k = k (if 0 ≤ x ∧ x < e then 1 else 0) μ := by rw [within_s]; rfl
theorem has_s (x : Int32) (μ : Mm) : fX3_has x μ = some (if 0 ≤ x ∧ x < μ 1 1 then 1 else 0, μ) := by
  unfold fX3_has
  rw [cl_wi]
  split <;> rfl
theorem cl_has (x : Int32) (μ : Mm) (k : Int32 → Mm → Aa) : mm_cl (fX3_has x μ) k = k (if 0 ≤ x ∧ x < μ 1 1 then 1 else 0) μ := by rw [has_s]; rfl
theorem isP_s (x : Int32) (ν : Mm) : fX7_isPerson x ν = some (if 0 ≤ x.toInt64 ∧ x.toInt64 ≤ (ν 0 1 - 1).toInt64 then 1 else 0, ν) := by
  unfold fX7_isPerson
  rw [cl_in]
  split <;> rfl
theorem cl_isP (x : Int32) (ν : Mm) (k : Int32 → Mm → Aa) : mm_cl (fX7_isPerson x ν) k = k (if 0 ≤ x.toInt64 ∧ x.toInt64 ≤ (ν 0 1 - 1).toInt64 then 1 else 0) ν := by rw [isP_s]; rfl
theorem iw_ne {σ : IM} {k j : Nat} {v : Int} {a b : Nat} (h : ¬ (a = k ∧ b = j)) : iw σ k j v a b = σ a b := if_neg h
theorem iw_eq {σ : IM} {k j : Nat} {v : Int} {a b : Nat} (h1 : a = k) (h2 : b = j) : iw σ k j v a b = v := if_pos ⟨h1, h2⟩
theorem iw_at (σ : IM) (k j : Nat) (v : Int) (a b : Nat) : iw σ k j v a b = if a = k ∧ b = j then v else σ a b := rfl
/-- what the relation says at hand -/
theorem RX.now {σ τ : IM} (h : RX σ τ) : (σ 1 0 = τ 0 3 ∧ 1 ≤ τ 0 3 ∧ τ 0 3 ≤ 400) ∧ (σ 1 1 = τ 0 1 ∧ 0 ≤ τ 0 1 ∧ τ 0 1 ≤ 10) := ⟨h.1.1, h.1.2.1⟩
theorem RX.law {σ τ : IM} (h : RX σ τ) (i : Nat) (hi : i < 6) : σ 2 i = τ 2 i ∧ lawLo i ≤ τ 2 i ∧ τ 2 i ≤ lawHi i := h.1.2.2.1 i hi
theorem RX.folk {σ τ : IM} (h : RX σ τ) (p : Nat) (hp : (p : Int) < τ 0 1) : (∀ j, j < 6 → σ (4 + p) j = τ 1 (7 * p + j) ∧ tolLo j ≤ τ 1 (7 * p + j) ∧ τ 1 (7 * p + j) ≤ tolHi j) ∧ τ 1 (7 * p + 6) = (if σ (4 + p) 6 < 0 then -4 else σ (4 + p) 6) ∧ -1 ≤ σ (4 + p) 6 ∧ σ (4 + p) 6 < τ 0 1 := h.1.2.2.2 p hp
/-- the parts of the relation that a change of the state 'now' leaves -/
theorem RX.rest {σ τ σ' τ' : IM} (h : RX σ τ) (h1 : SRel σ' τ' 1 (τ' 0 3) (τ' 0 1) 2 1) (hx : ∀ k j, k = 0 ∨ 14 ≤ k → k ≠ 29 → σ' k j = σ k j) (hm : ∀ k j, (k = 0 ∧ 4 ≤ j) ∨ k = 3 ∨ 23 ≤ k → τ' k j = τ k j) : RX σ' τ' := by
  obtain ⟨-, a2, a3, a4⟩ := h
  exact ⟨h1, a2.cong (hx _ _ (by omega) (by omega)) (hm _ _ (by omega)) (hm _ _ (by omega)) (hm _ _ (by omega)) (fun j => hx _ _ (by omega) (by omega)) (fun j => hx _ _ (by omega) (by omega)) (fun p j hp => hx _ _ (by omega) (by omega)) (fun i => hm _ _ (by omega)) (fun i => hm _ _ (by omega)), a3.cong (hx _ _ (by omega) (by omega)) (fun i => hx _ _ (by omega) (by omega)) (hm _ _ (by omega)) (fun i => hm _ _ (by omega)), fun s hs => (a4 s hs).cong (fun j => hx _ _ (by omega) (by omega)) (fun i => hx _ _ (by omega) (by omega)) (hm _ _ (by omega)) (hm _ _ (by omega)) (fun i _ => hm _ _ (by omega))⟩
def pac (kind pace : Int) : Int := if kind = 1 ∨ kind = 3 then 2 * pace else if kind = 2 then (if 1 < pace / 2 then pace / 2 else 1) else pace
theorem pac_rng {kind pace : Int} (h1 : 1 ≤ pace) (h2 : pace ≤ 20) : 1 ≤ pac kind pace ∧ pac kind pace ≤ 40 := by
  unfold pac
  split
  · omega
  · split
    · split <;> omega
    · omega
theorem half_s (x : Int) (μ : Mm) (h1 : 0 ≤ x) (h2 : x < 2147483648) : fX6_half (mI x) μ = some (mI (if 1 < x / 2 then x / 2 else 1), μ) := by
  unfold fX6_half
  simp (implicitDefEqProofs := false) (maxSteps := 1000000) (disch := omega) only [mI_div, ↓mm_lt_s, ↓cl_in, ↓cl_wi, ↓cl_has, ↓cl_isP, mL_le, lit_n, litL_n, mL_mI, mL_neg, mm_cl_s, mI_lt, mI_le, mI_eq, enc_at, enc_wr, enc_cp, mI_neg, mI_add, mI_sub, mI_mul, mI_ix, mm_ck_ok, mm_nz_ok, mm_bo_c, mm_bo_m0, mm_bo_m1, b01, Int.toNat_natCast, Int.reduceToNat, Int.reduceNeg, Int.reduceSub, Int.reduceAdd, Int.reduceMul, Int.reduceLT, Int.reduceLE, Int.reduceEq, ↓reduceIte, not_true, not_false_eq_true, not_true_eq_false, and_self, true_and, and_true, false_and, and_false, Decidable.not_not, stv1, stv2, stv3, stv4]
  split <;> rfl
theorem paceX (p : Nat) (σ : IM) (hp : p < 10) (h1 : 0 ≤ σ (4 + p) 2 ∧ σ (4 + p) 2 ≤ 3) (h2 : 1 ≤ σ (4 + p) 3 ∧ σ (4 + p) 3 ≤ 20) : fX3_paceOf (mI p) (enc σ) = some (mI (pac (σ (4 + p) 2) (σ (4 + p) 3)), enc σ) := by
  unfold fX3_paceOf
  simp (implicitDefEqProofs := false) (maxSteps := 1000000) (disch := omega) only [half_s, ↓mm_lt_s, ↓cl_in, ↓cl_wi, ↓cl_has, ↓cl_isP, mL_le, lit_n, litL_n, mL_mI, mL_neg, mm_cl_s, mI_lt, mI_le, mI_eq, enc_at, enc_wr, enc_cp, mI_neg, mI_add, mI_sub, mI_mul, mI_ix, mm_ck_ok, mm_nz_ok, mm_bo_c, mm_bo_m0, mm_bo_m1, b01, Int.toNat_natCast, Int.reduceToNat, Int.reduceNeg, Int.reduceSub, Int.reduceAdd, Int.reduceMul, Int.reduceLT, Int.reduceLE, Int.reduceEq, ↓reduceIte, not_true, not_false_eq_true, not_true_eq_false, and_self, true_and, and_true, false_and, and_false, Decidable.not_not, stv1, stv2, stv3, stv4]
  generalize σ (4 + p) 2 = a at *
  generalize σ (4 + p) 3 = b at *
  unfold pac
  by_cases c1 : a = 1
  · simp [c1, Int.mul_comm]
  · by_cases c2 : a = 2
    · simp [c2]
    · by_cases c3 : a = 3
      · simp [c3, Int.mul_comm]
      · simp [c1, c2, c3]
theorem most_s (x y : Int) (μ : Mm) (h1 : I32 x) (h2 : I32 y) : fX7_most (mI x) (mI y) μ = some (mI (if y < x then x else y), μ) := by
  unfold fX7_most
  simp (implicitDefEqProofs := false) (maxSteps := 1000000) (disch := omega) only [↓mm_lt_s, ↓cl_in, ↓cl_wi, ↓cl_has, ↓cl_isP, mL_le, lit_n, litL_n, mL_mI, mL_neg, mm_cl_s, mI_lt, mI_le, mI_eq, enc_at, enc_wr, enc_cp, mI_neg, mI_add, mI_sub, mI_mul, mI_ix, mm_ck_ok, mm_nz_ok, mm_bo_c, mm_bo_m0, mm_bo_m1, b01, Int.toNat_natCast, Int.reduceToNat, Int.reduceNeg, Int.reduceSub, Int.reduceAdd, Int.reduceMul, Int.reduceLT, Int.reduceLE, Int.reduceEq, ↓reduceIte, not_true, not_false_eq_true, not_true_eq_false, and_self, true_and, and_true, false_and, and_false, Decidable.not_not, stv1, stv2, stv3, stv4]
  by_cases c : y < x
  · simp [c, show ¬ x ≤ y by omega]
  · simp [c, show x ≤ y by omega]
theorem least_s (x y : Int) (μ : Mm) (h1 : I32 x) (h2 : I32 y) : fX7_least (mI x) (mI y) μ = some (mI (if x < y then x else y), μ) := by
  unfold fX7_least
  simp (implicitDefEqProofs := false) (maxSteps := 1000000) (disch := omega) only [↓mm_lt_s, ↓cl_in, ↓cl_wi, ↓cl_has, ↓cl_isP, mL_le, lit_n, litL_n, mL_mI, mL_neg, mm_cl_s, mI_lt, mI_le, mI_eq, enc_at, enc_wr, enc_cp, mI_neg, mI_add, mI_sub, mI_mul, mI_ix, mm_ck_ok, mm_nz_ok, mm_bo_c, mm_bo_m0, mm_bo_m1, b01, Int.toNat_natCast, Int.reduceToNat, Int.reduceNeg, Int.reduceSub, Int.reduceAdd, Int.reduceMul, Int.reduceLT, Int.reduceLE, Int.reduceEq, ↓reduceIte, not_true, not_false_eq_true, not_true_eq_false, and_self, true_and, and_true, false_and, and_false, Decidable.not_not, stv1, stv2, stv3, stv4]
  by_cases c : x < y
  · simp [c, show ¬ y ≤ x by omega]
  · simp [c, show y ≤ x by omega]
theorem paceM (p : Nat) (τ : IM) (hp : p < 10) (h1 : 0 ≤ τ 1 (7 * p + 2) ∧ τ 1 (7 * p + 2) ≤ 3) (h2 : 1 ≤ τ 1 (7 * p + 3) ∧ τ 1 (7 * p + 3) ≤ 20) : fX7_paceOf (mI p) (enc τ) = some (mI (pac (τ 1 (7 * p + 2)) (τ 1 (7 * p + 3))), enc τ) := by
  unfold fX7_paceOf
  have e2 : (7 * (p : Int) + 2).toNat = 7 * p + 2 := by omega
  have e3 : (7 * (p : Int) + 3).toNat = 7 * p + 3 := by omega
  simp (implicitDefEqProofs := false) (maxSteps := 1000000) (disch := omega) only [e2, e3, mI_div, most_s, ↓mm_lt_s, ↓cl_in, ↓cl_wi, ↓cl_has, ↓cl_isP, mL_le, lit_n, litL_n, mL_mI, mL_neg, mm_cl_s, mI_lt, mI_le, mI_eq, enc_at, enc_wr, enc_cp, mI_neg, mI_add, mI_sub, mI_mul, mI_ix, mm_ck_ok, mm_nz_ok, mm_bo_c, mm_bo_m0, mm_bo_m1, b01, Int.toNat_natCast, Int.reduceToNat, Int.reduceNeg, Int.reduceSub, Int.reduceAdd, Int.reduceMul, Int.reduceLT, Int.reduceLE, Int.reduceEq, ↓reduceIte, not_true, not_false_eq_true, not_true_eq_false, and_self, true_and, and_true, false_and, and_false, Decidable.not_not, stv1, stv2, stv3, stv4]
  generalize τ 1 (7 * p + 2) = a at *
  generalize τ 1 (7 * p + 3) = b at *
  unfold pac
  by_cases c1 : a = 1
  · simp [c1]
  · by_cases c2 : a = 2
    · simp only [c2]
      simp
      congr 1
      split <;> split <;> omega
    · by_cases c3 : a = 3
      · simp [c3]
      · simp [c1, c2, c3]
