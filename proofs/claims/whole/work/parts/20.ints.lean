/-! numbers: Int32 as the image of Int -/
def mI (z : Int) : Int32 := Int32.ofInt z
theorem mI_toInt {z : Int} (h1 : -2147483648 ≤ z) (h2 : z < 2147483648) : (mI z).toInt = z := by
  unfold mI
  rw [Int32.toInt_ofInt]
  show z.bmod 4294967296 = z
  exact Int.bmod_eq_of_le (by omega) (by omega)
theorem mI_of (x : Int32) : mI x.toInt = x := Int32.ofInt_toInt x
theorem mI_add (a b : Int) : mI a + mI b = mI (a + b) := (Int32.ofInt_add a b).symm
theorem mI_mul (a b : Int) : mI a * mI b = mI (a * b) := (Int32.ofInt_mul a b).symm
theorem mI_neg (a : Int) : - mI a = mI (- a) := (Int32.ofInt_neg a).symm
theorem mI_sub (a b : Int) : mI a - mI b = mI (a - b) := (Int32.ofInt_sub a b).symm
theorem mI_rng (x : Int32) : -2147483648 ≤ x.toInt ∧ x.toInt < 2147483648 := ⟨Int32.le_toInt x, Int32.toInt_lt x⟩
theorem mI_lt {a b : Int} (h1 : -2147483648 ≤ a) (h2 : a < 2147483648) (h3 : -2147483648 ≤ b) (h4 : b < 2147483648) : (mI a < mI b) = (a < b) := by
  rw [Int32.lt_iff_toInt_lt, mI_toInt h1 h2, mI_toInt h3 h4]
theorem mI_le {a b : Int} (h1 : -2147483648 ≤ a) (h2 : a < 2147483648) (h3 : -2147483648 ≤ b) (h4 : b < 2147483648) : (mI a ≤ mI b) = (a ≤ b) := by
  rw [Int32.le_iff_toInt_le, mI_toInt h1 h2, mI_toInt h3 h4]
theorem mI_eq {a b : Int} (h1 : -2147483648 ≤ a) (h2 : a < 2147483648) (h3 : -2147483648 ≤ b) (h4 : b < 2147483648) : (mI a = mI b) = (a = b) := by
  apply propext
  constructor
  · intro h
    have := congrArg Int32.toInt h
    rwa [mI_toInt h1 h2, mI_toInt h3 h4] at this
  · intro h; rw [h]
theorem mI_ix {z : Int} (h1 : 0 ≤ z) (h2 : z < 2147483648) : (mI z).toNatClampNeg = z.toNat := by
  have h := mI_toInt (by omega) h2
  show (mI z).toInt.toNat = z.toNat
  rw [h]
theorem mI_div {a b : Int} (h1 : 0 ≤ a) (h2 : a < 2147483648) (h3 : 0 < b) (h4 : b < 2147483648) : mI a / mI b = mI (a / b) := by
  apply Int32.toInt_inj.mp
  rw [Int32.toInt_div, mI_toInt (by omega) h2, mI_toInt (by omega) h4, Int.tdiv_eq_ediv_of_nonneg h1]
  have h5 : 0 ≤ a / b := Int.ediv_nonneg h1 (by omega)
  have h6 : a / b ≤ a := Int.ediv_le_self b h1
  rw [mI_toInt (by omega) (by omega)]
  exact Int.bmod_eq_of_le (by omega) (by omega)
abbrev IM : Type := Nat → Nat → Int
def enc (σ : IM) : Mm := fun k j => mI (σ k j)
def iw (σ : IM) (k j : Nat) (v : Int) : IM := fun a b => if a = k ∧ b = j then v else σ a b
def icp (σ : IM) (k0 k1 sp dp n : Nat) : IM := fun a b => if a = k1 ∧ (dp ≤ b ∧ b < dp + n) then σ k0 (sp + (b - dp)) else σ a b
theorem enc_at (σ : IM) (k j : Nat) : enc σ k j = mI (σ k j) := rfl
theorem enc_wr (σ : IM) (k j : Nat) (v : Int) : mm_wr (enc σ) k j (mI v) = enc (iw σ k j v) := by
  funext a b
  unfold mm_wr enc iw
  split <;> rfl
theorem enc_cp (σ : IM) (k0 k1 sp dp n : Nat) : mm_cp (enc σ) k0 k1 sp dp n = enc (icp σ k0 k1 sp dp n) := by
  funext a b
  unfold mm_cp enc icp
  split <;> rfl
theorem enc_of (μ : Mm) : enc (fun k j => (μ k j).toInt) = μ := by
  funext k j
  exact mI_of _
theorem mm_ck_ok {i : Int} {n : Nat} {E : Aa} (h1 : 0 ≤ i) (h2 : i < (n : Int)) (h3 : (n : Int) < 2147483648) : mm_ck (mI i) n E = E := by
  unfold mm_ck
  rw [if_neg]
  rintro (h | h)
  · rw [show (0 : Int32) = mI 0 from rfl, mI_lt (by omega) (by omega) (by omega) (by omega)] at h
    omega
  · rw [mI_ix h1 (by omega)] at h
    omega
theorem mm_nz_ok {y : Int} {E : Aa} (h0 : y ≠ 0) (h1 : -2147483648 ≤ y) (h2 : y < 2147483648) : mm_nz (mI y) E = E := by
  unfold mm_nz
  rw [if_neg]
  intro h
  rw [show (0 : Int32) = mI 0 from rfl, mI_eq h1 h2 (by omega) (by omega)] at h
  exact h0 h
theorem mm_bo_0 {E : Aa} : mm_bo 0 E = E := rfl
theorem mm_bo_1 {E : Aa} : mm_bo 1 E = E := rfl
theorem mm_cl_s (r : Int32) (μ : Mm) (k : Int32 → Mm → Aa) : mm_cl (some (r, μ)) k = k r μ := rfl
theorem mm_lt_s {α β : Type} (e : α) (f : α → β) : mm_lt e f = f e := rfl
theorem mm_lk_s {β : Type} (z : β) (F : β → β) (n : Nat) : mm_lk z F (n + 1) = F (mm_lk z F n) := rfl
theorem lit_n (n : Nat) : (OfNat.ofNat n : Int32) = mI (OfNat.ofNat n) := rfl
theorem lit_0 : (0 : Int32) = mI 0 := rfl
theorem lit_1 : (1 : Int32) = mI 1 := rfl
theorem lit_m1 : (-1 : Int32) = mI (-1) := rfl
def mL (z : Int) : Int64 := Int64.ofInt z
theorem mL_toInt {z : Int} (h1 : -9223372036854775808 ≤ z) (h2 : z < 9223372036854775808) : (mL z).toInt = z := by
  unfold mL
  rw [Int64.toInt_ofInt]
  show z.bmod 18446744073709551616 = z
  exact Int.bmod_eq_of_le (by omega) (by omega)
theorem mL_of (x : Int64) : mL x.toInt = x := Int64.ofInt_toInt x
theorem mL_mI {z : Int} (h1 : -2147483648 ≤ z) (h2 : z < 2147483648) : (mI z).toInt64 = mL z := by
  apply Int64.toInt_inj.mp
  rw [Int32.toInt_toInt64, mI_toInt h1 h2, mL_toInt (by omega) (by omega)]
theorem litL_n (n : Nat) : (OfNat.ofNat n : Int64) = mL (OfNat.ofNat n) := rfl
theorem mL_neg (a : Int) : - mL a = mL (- a) := (Int64.ofInt_neg a).symm
theorem in_s (x lo hi : Int) (ν : Mm) (h1 : -9223372036854775808 ≤ x) (h2 : x < 9223372036854775808) (h3 : -9223372036854775808 ≤ lo) (h4 : lo < 9223372036854775808) (h5 : -9223372036854775808 ≤ hi) (h6 : hi < 9223372036854775808) : fX7_in (mL x) (mL lo) (mL hi) ν = some (if lo ≤ x ∧ x ≤ hi then 1 else 0, ν) := by
  have e1 : (lg_cmp (mL x) (mL lo) < 0) ↔ x < lo := by
    unfold lg_cmp
    simp only [gt_iff_lt, Int64.lt_iff_toInt_lt, ← Int64.toInt_inj, mL_toInt h1 h2, mL_toInt h3 h4]
    by_cases a : lo < x
    · simp [a]; omega
    · by_cases b : x = lo
      · simp [b]
      · simp [a, b]; omega
  have e2 : (0 < lg_cmp (mL x) (mL hi)) ↔ hi < x := by
    unfold lg_cmp
    simp only [gt_iff_lt, Int64.lt_iff_toInt_lt, ← Int64.toInt_inj, mL_toInt h1 h2, mL_toInt h5 h6]
    by_cases a : hi < x
    · simp [a]
    · by_cases b : x = hi
      · simp [b]
      · simp [a, b]
  unfold fX7_in
  simp only [mm_lt_s, e1, e2, mm_bo_0, mm_bo_1]
  by_cases a : x < lo
  · simp [a, show ¬ lo ≤ x by omega]
  · by_cases b : hi < x
    · simp [a, b, show ¬ x ≤ hi by omega]
    · simp [a, b, show lo ≤ x by omega, show x ≤ hi by omega]
