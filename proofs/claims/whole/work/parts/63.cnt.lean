/-! counting -/
def cN (p : Nat → Prop) [DecidablePred p] : Nat → Nat
  | 0 => 0
  | d + 1 => cN p d + (if p d then 1 else 0)
theorem cN_s {p : Nat → Prop} [DecidablePred p] (d : Nat) : cN p (d + 1) = cN p d + (if p d then 1 else 0) := rfl
theorem cN_le {p : Nat → Prop} [DecidablePred p] : ∀ d, cN p d ≤ d
  | 0 => Nat.le_refl 0
  | d + 1 => by
    have := cN_le (p := p) d
    unfold cN
    split <;> omega
theorem cN_cong {p q : Nat → Prop} [DecidablePred p] [DecidablePred q] : ∀ d, (∀ k, k < d → (p k ↔ q k)) → cN p d = cN q d
  | 0, _ => rfl
  | d + 1, h => by
    unfold cN
    rw [cN_cong d (fun k hk => h k (by omega))]
    have := h d (by omega)
    by_cases c : p d
    · rw [if_pos c, if_pos (this.1 c)]
    · rw [if_neg c, if_neg (fun x => c (this.2 x))]
theorem cN_0 {p : Nat → Prop} [DecidablePred p] : ∀ d, (∀ k, k < d → ¬ p k) → cN p d = 0
  | 0, _ => rfl
  | d + 1, h => by
    unfold cN
    rw [cN_0 d (fun k hk => h k (by omega)), if_neg (h d (by omega))]
theorem cN_all {p : Nat → Prop} [DecidablePred p] : ∀ d, (∀ k, k < d → p k) → cN p d = d
  | 0, _ => rfl
  | d + 1, h => by
    unfold cN
    rw [cN_all d (fun k hk => h k (by omega)), if_pos (h d (by omega))]
theorem cN_none {p : Nat → Prop} [DecidablePred p] : ∀ d, cN p d = 0 → ∀ k, k < d → ¬ p k
  | 0, _, k, hk => absurd hk (Nat.not_lt_zero k)
  | d + 1, h, k, hk => by
    unfold cN at h
    by_cases c : p d
    · rw [if_pos c] at h
      omega
    · rw [if_neg c] at h
      by_cases e : k = d
      · rw [e]; exact c
      · exact cN_none d (by omega) k (by omega)
/-- two ways apart -/
theorem cN_add {p q r : Nat → Prop} [DecidablePred p] [DecidablePred q] [DecidablePred r] : ∀ d, (∀ k, k < d → (r k ↔ (p k ∨ q k)) ∧ ¬ (p k ∧ q k)) → cN r d = cN p d + cN q d
  | 0, _ => rfl
  | d + 1, h => by
    unfold cN
    rw [cN_add (p := p) (q := q) d (fun k hk => h k (by omega))]
    obtain ⟨h1, h2⟩ := h d (by omega)
    by_cases c : p d
    · have c2 : ¬ q d := fun x => h2 ⟨c, x⟩
      rw [if_pos c, if_neg c2, if_pos (h1.2 (Or.inl c))]
      omega
    · by_cases c2 : q d
      · rw [if_neg c, if_pos c2, if_pos (h1.2 (Or.inr c2))]
        omega
      · rw [if_neg c, if_neg c2, if_neg (fun x => (h1.1 x).elim c c2)]
        omega
theorem spF_c {m : Nat} {B : Int} {σ : IM} {p : Nat → Prop} [DecidablePred p] (h : ∀ k, k < m → (p k ↔ (stp m B σ k ∧ ¬ σ (34 + k) 5 = 0))) : ∀ d i s, i + d = m → spF m B σ d i s + cN p i = s + cN p m
  | 0, i, s, e => by
    have e : i = m := by omega
    subst e
    rfl
  | d + 1, i, s, e => by
    unfold spF
    have k := h i (by omega)
    have ih := spF_c h d (i + 1) (if stp m B σ i ∧ ¬ σ (34 + i) 5 = 0 then s + 1 else s) (by omega)
    rw [cN_s] at ih
    by_cases c : p i
    · rw [if_pos c, if_pos (k.1 c)] at ih
      rw [if_pos (k.1 c)]
      omega
    · rw [if_neg c, if_neg (fun x => c (k.2 x))] at ih
      rw [if_neg (fun x => c (k.2 x))]
      omega
theorem tb_iff (c q : Nat) : c / 2 ^ q % 2 = 1 ↔ c.testBit q = true := by
  rw [Nat.testBit_eq_decide_div_mod_eq, decide_eq_true_iff]
theorem tb_or (c i q : Nat) : (c ||| 2 ^ i) / 2 ^ q % 2 = 1 ↔ (c / 2 ^ q % 2 = 1 ∨ q = i) := by
  rw [tb_iff, tb_iff, Nat.testBit_or, Nat.testBit_two_pow, Bool.or_eq_true, decide_eq_true_iff]
  exact ⟨fun x => x.elim Or.inl (fun y => Or.inr y.symm), fun x => x.elim Or.inl (fun y => Or.inr y.symm)⟩
theorem tb_0 (q : Nat) : ¬ (0 / 2 ^ q % 2 = 1) := by
  rw [Nat.zero_div]
  decide
theorem mskF_tb {m : Nat} {B : Int} {σ : IM} {q : Nat} : ∀ d i c, (∀ k, i ≤ k → k < i + d → 0 ≤ σ (34 + k) 6) → (mskF m B σ d i c / 2 ^ q % 2 = 1 ↔ (c / 2 ^ q % 2 = 1 ∨ ∃ k, (i ≤ k ∧ k < i + d) ∧ (stp m B σ k ∧ σ (34 + k) 5 = 0) ∧ σ (34 + k) 6 = (q : Int)))
  | 0, i, c, _ => by
    unfold mskF
    exact ⟨Or.inl, fun x => x.elim id (fun ⟨k, h, _⟩ => by omega)⟩
  | d + 1, i, c, h => by
    unfold mskF
    rw [mskF_tb d (i + 1) _ (fun k h1 h2 => h k (by omega) (by omega))]
    have hi := h i (by omega) (by omega)
    by_cases a : stp m B σ i ∧ σ (34 + i) 5 = 0
    · rw [if_pos a, tb_or]
      constructor
      · rintro ((x | x) | ⟨k, x1, x2⟩)
        · exact Or.inl x
        · exact Or.inr ⟨i, ⟨by omega, by omega⟩, a, by omega⟩
        · exact Or.inr ⟨k, ⟨by omega, by omega⟩, x2⟩
      · rintro (x | ⟨k, x1, x2, x3⟩)
        · exact Or.inl (Or.inl x)
        · by_cases e : k = i
          · subst e
            exact Or.inl (Or.inr (by omega))
          · exact Or.inr ⟨k, ⟨by omega, by omega⟩, x2, x3⟩
    · rw [if_neg a]
      constructor
      · rintro (x | ⟨k, x1, x2⟩)
        · exact Or.inl x
        · exact Or.inr ⟨k, ⟨by omega, by omega⟩, x2⟩
      · rintro (x | ⟨k, x1, x2, x3⟩)
        · exact Or.inl x
        · by_cases e : k = i
          · subst e
            exact absurd x2 a
          · exact Or.inr ⟨k, ⟨by omega, by omega⟩, x2, x3⟩
theorem popF_c {c : Nat} {p : Nat → Prop} [DecidablePred p] : ∀ d, (∀ q, q < d → (p q ↔ c / 2 ^ q % 2 = 1)) → popF c d = cN p d
  | 0, _ => rfl
  | d + 1, h => by
    unfold popF cN
    rw [popF_c d (fun q hq => h q (by omega))]
    have := h d (by omega)
    by_cases a : p d
    · rw [if_pos a, this.1 a]
    · rw [if_neg a]
      have : ¬ c / 2 ^ d % 2 = 1 := fun x => a (this.2 x)
      omega
theorem cN_ext {p : Nat → Prop} [DecidablePred p] : ∀ e d, (∀ k, d ≤ k → k < d + e → ¬ p k) → cN p (d + e) = cN p d
  | 0, d, _ => rfl
  | e + 1, d, h => by
    rw [show d + (e + 1) = (d + e) + 1 by omega, cN_s, if_neg (h (d + e) (by omega) (by omega)), cN_ext e d (fun k h1 h2 => h k h1 (by omega)), Nat.add_zero]
/-- the companies of a set, counted -/
theorem popc_msk {m n : Nat} {B : Int} {σ : IM} {p : Nat → Prop} [DecidablePred p] (hn : n ≤ 10) (h6 : ∀ k, k < m → 0 ≤ σ (34 + k) 6 ∧ σ (34 + k) 6 < n) (hp : ∀ q, q < n → (p q ↔ ∃ k, k < m ∧ (stp m B σ k ∧ σ (34 + k) 5 = 0) ∧ σ (34 + k) 6 = (q : Int))) : popc (mskF m B σ m 0 0) = cN p n := by
  have T := fun q => mskF_tb (m := m) (B := B) (σ := σ) (q := q) m 0 0 (fun k _ hk => (h6 k (by omega)).1)
  have E : popF (mskF m B σ m 0 0) n = cN p n := popF_c n (fun q hq => by
    rw [hp q hq, T q]
    constructor
    · rintro ⟨k, k1, k2⟩
      exact Or.inr ⟨k, ⟨by omega, by omega⟩, k2⟩
    · rintro (x | ⟨k, k1, k2⟩)
      · exact absurd x (tb_0 q)
      · exact ⟨k, by omega, k2⟩)
  rw [← E]
  have Z : ∀ e d, d + e = 10 → n ≤ d → popF (mskF m B σ m 0 0) 10 = popF (mskF m B σ m 0 0) d := by
    intro e
    induction e with
    | zero =>
      intro d h _
      rw [show d = 10 by omega]
    | succ e ih =>
      intro d h hd
      rw [ih (d + 1) (by omega) (by omega), popF_s]
      have : ¬ mskF m B σ m 0 0 / 2 ^ d % 2 = 1 := fun x => by
        rcases (T d).1 x with y | ⟨k, k1, k2, k3⟩
        · exact tb_0 d y
        · have := h6 k (by omega)
          omega
      omega
  exact Z (10 - n) n (by omega) (Nat.le_refl n)
