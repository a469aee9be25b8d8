set_option maxRecDepth 100000 in
theorem atX {cA : Nat → ClassId} {r : Nat → Nat} (k : Nat) (hk : k < 57) : ∃ e, (wX6 cA r)[k]? = some (r k, e) := match k, hk with
  | 0, _ => ⟨_, rfl⟩
  | 1, _ => ⟨_, rfl⟩
  | 2, _ => ⟨_, rfl⟩
  | 3, _ => ⟨_, rfl⟩
  | 4, _ => ⟨_, rfl⟩
  | 5, _ => ⟨_, rfl⟩
  | 6, _ => ⟨_, rfl⟩
  | 7, _ => ⟨_, rfl⟩
  | 8, _ => ⟨_, rfl⟩
  | 9, _ => ⟨_, rfl⟩
  | 10, _ => ⟨_, rfl⟩
  | 11, _ => ⟨_, rfl⟩
  | 12, _ => ⟨_, rfl⟩
  | 13, _ => ⟨_, rfl⟩
  | 14, _ => ⟨_, rfl⟩
  | 15, _ => ⟨_, rfl⟩
  | 16, _ => ⟨_, rfl⟩
  | 17, _ => ⟨_, rfl⟩
  | 18, _ => ⟨_, rfl⟩
  | 19, _ => ⟨_, rfl⟩
  | 20, _ => ⟨_, rfl⟩
  | 21, _ => ⟨_, rfl⟩
  | 22, _ => ⟨_, rfl⟩
  | 23, _ => ⟨_, rfl⟩
  | 24, _ => ⟨_, rfl⟩
  | 25, _ => ⟨_, rfl⟩
  | 26, _ => ⟨_, rfl⟩
  | 27, _ => ⟨_, rfl⟩
  | 28, _ => ⟨_, rfl⟩
  | 29, _ => ⟨_, rfl⟩
  | 30, _ => ⟨_, rfl⟩
  | 31, _ => ⟨_, rfl⟩
  | 32, _ => ⟨_, rfl⟩
  | 33, _ => ⟨_, rfl⟩
  | 34, _ => ⟨_, rfl⟩
  | 35, _ => ⟨_, rfl⟩
  | 36, _ => ⟨_, rfl⟩
  | 37, _ => ⟨_, rfl⟩
  | 38, _ => ⟨_, rfl⟩
  | 39, _ => ⟨_, rfl⟩
  | 40, _ => ⟨_, rfl⟩
  | 41, _ => ⟨_, rfl⟩
  | 42, _ => ⟨_, rfl⟩
  | 43, _ => ⟨_, rfl⟩
  | 44, _ => ⟨_, rfl⟩
  | 45, _ => ⟨_, rfl⟩
  | 46, _ => ⟨_, rfl⟩
  | 47, _ => ⟨_, rfl⟩
  | 48, _ => ⟨_, rfl⟩
  | 49, _ => ⟨_, rfl⟩
  | 50, _ => ⟨_, rfl⟩
  | 51, _ => ⟨_, rfl⟩
  | 52, _ => ⟨_, rfl⟩
  | 53, _ => ⟨_, rfl⟩
  | 54, _ => ⟨_, rfl⟩
  | 55, _ => ⟨_, rfl⟩
  | 56, _ => ⟨_, rfl⟩
  | k + 57, h => absurd h (by omega)
set_option maxRecDepth 100000 in
theorem atM {cA : Nat → ClassId} {r : Nat → Nat} (k : Nat) (hk : k < 28) : ∃ e, (wX7 cA r)[k]? = some (r k, e) := match k, hk with
  | 0, _ => ⟨_, rfl⟩
  | 1, _ => ⟨_, rfl⟩
  | 2, _ => ⟨_, rfl⟩
  | 3, _ => ⟨_, rfl⟩
  | 4, _ => ⟨_, rfl⟩
  | 5, _ => ⟨_, rfl⟩
  | 6, _ => ⟨_, rfl⟩
  | 7, _ => ⟨_, rfl⟩
  | 8, _ => ⟨_, rfl⟩
  | 9, _ => ⟨_, rfl⟩
  | 10, _ => ⟨_, rfl⟩
  | 11, _ => ⟨_, rfl⟩
  | 12, _ => ⟨_, rfl⟩
  | 13, _ => ⟨_, rfl⟩
  | 14, _ => ⟨_, rfl⟩
  | 15, _ => ⟨_, rfl⟩
  | 16, _ => ⟨_, rfl⟩
  | 17, _ => ⟨_, rfl⟩
  | 18, _ => ⟨_, rfl⟩
  | 19, _ => ⟨_, rfl⟩
  | 20, _ => ⟨_, rfl⟩
  | 21, _ => ⟨_, rfl⟩
  | 22, _ => ⟨_, rfl⟩
  | 23, _ => ⟨_, rfl⟩
  | 24, _ => ⟨_, rfl⟩
  | 25, _ => ⟨_, rfl⟩
  | 26, _ => ⟨_, rfl⟩
  | 27, _ => ⟨_, rfl⟩
  | k + 28, h => absurd h (by omega)
theorem perm_in : ∀ i, i < 57 → permX i < 57 := by decide +kernel
theorem perm_inj : ∀ i, i < 57 → ∀ j, j < 57 → permX i = permX j → i = j := by decide +kernel
theorem jX {A : Nat → Prop} {cA : Nat → ClassId} {r : Nat → Nat} (hD : va_D A (wX6 cA r)) : mm_J (fun k => r (permX k)) 57 := by
  intro i j hi hj h
  obtain ⟨e1, h1⟩ := atX (cA := cA) (r := r) (permX i) (perm_in i hi)
  obtain ⟨e2, h2⟩ := atX (cA := cA) (r := r) (permX j) (perm_in j hj)
  exact perm_inj i hi j hj (hD.1 _ _ _ _ h1 h2 h)
theorem jM {A : Nat → Prop} {cA : Nat → ClassId} {r : Nat → Nat} (hD : va_D A (wX7 cA r)) : mm_J r 28 := by
  intro i j hi hj h
  obtain ⟨e1, h1⟩ := atM (cA := cA) (r := r) i hi
  obtain ⟨e2, h2⟩ := atM (cA := cA) (r := r) j hj
  exact hD.1 _ _ _ _ h1 h2 h
theorem aX {A : Nat → Prop} {cA : Nat → ClassId} {r : Nat → Nat} (hD : va_D A (wX6 cA r)) (k : Nat) (hk : k < 57) : A (r (permX k)) := by
  obtain ⟨e1, h1⟩ := atX (cA := cA) (r := r) (permX k) (perm_in k hk)
  exact hD.2 _ _ h1
theorem aM {A : Nat → Prop} {cA : Nat → ClassId} {r : Nat → Nat} (hD : va_D A (wX7 cA r)) (k : Nat) (hk : k < 28) : A (r k) := by
  obtain ⟨e1, h1⟩ := atM (cA := cA) (r := r) k hk
  exact hD.2 _ _ h1
/-- the reference's memory after its constructor -/
def muM (k : Nat) : Nat → Int32 := if k = 0 then (fun j => if j = 3 then 20 else if j = 27 then -1 else 0) else if k = 2 then upd (upd (upd (fun _ => 0) 0 1) 2 5) 4 99 else if k = 25 then upd (upd (upd (upd (fun _ => 0) 0 (-1)) 1 (-1)) 2 (-1)) 3 (-1) else fun _ => 0
set_option maxRecDepth 100000 in
theorem fM_0 {D : va_G} {H : Heap} {cA : Nat → ClassId} {r : Nat → Nat} (hP : va_P D vwCl (wX7 cA r) H) : va_at D vwCl (r 0, mm_cell cA r (muM 0) (sM 0)) H := hP 0 _ rfl
set_option maxRecDepth 100000 in
theorem fM_1 {D : va_G} {H : Heap} {cA : Nat → ClassId} {r : Nat → Nat} (hP : va_P D vwCl (wX7 cA r) H) : va_at D vwCl (r 1, mm_cell cA r (muM 1) (sM 1)) H := hP 1 _ rfl
set_option maxRecDepth 100000 in
theorem fM_2 {D : va_G} {H : Heap} {cA : Nat → ClassId} {r : Nat → Nat} (hP : va_P D vwCl (wX7 cA r) H) : va_at D vwCl (r 2, mm_cell cA r (muM 2) (sM 2)) H := hP 2 _ rfl
set_option maxRecDepth 100000 in
theorem fM_3 {D : va_G} {H : Heap} {cA : Nat → ClassId} {r : Nat → Nat} (hP : va_P D vwCl (wX7 cA r) H) : va_at D vwCl (r 3, mm_cell cA r (muM 3) (sM 3)) H := hP 3 _ rfl
set_option maxRecDepth 100000 in
theorem fM_4 {D : va_G} {H : Heap} {cA : Nat → ClassId} {r : Nat → Nat} (hP : va_P D vwCl (wX7 cA r) H) : va_at D vwCl (r 4, mm_cell cA r (muM 4) (sM 4)) H := hP 4 _ rfl
set_option maxRecDepth 100000 in
theorem fM_5 {D : va_G} {H : Heap} {cA : Nat → ClassId} {r : Nat → Nat} (hP : va_P D vwCl (wX7 cA r) H) : va_at D vwCl (r 5, mm_cell cA r (muM 5) (sM 5)) H := hP 5 _ rfl
set_option maxRecDepth 100000 in
theorem fM_6 {D : va_G} {H : Heap} {cA : Nat → ClassId} {r : Nat → Nat} (hP : va_P D vwCl (wX7 cA r) H) : va_at D vwCl (r 6, mm_cell cA r (muM 6) (sM 6)) H := hP 6 _ rfl
set_option maxRecDepth 100000 in
theorem fM_7 {D : va_G} {H : Heap} {cA : Nat → ClassId} {r : Nat → Nat} (hP : va_P D vwCl (wX7 cA r) H) : va_at D vwCl (r 7, mm_cell cA r (muM 7) (sM 7)) H := hP 7 _ rfl
set_option maxRecDepth 100000 in
theorem fM_8 {D : va_G} {H : Heap} {cA : Nat → ClassId} {r : Nat → Nat} (hP : va_P D vwCl (wX7 cA r) H) : va_at D vwCl (r 8, mm_cell cA r (muM 8) (sM 8)) H := hP 8 _ rfl
set_option maxRecDepth 100000 in
theorem fM_9 {D : va_G} {H : Heap} {cA : Nat → ClassId} {r : Nat → Nat} (hP : va_P D vwCl (wX7 cA r) H) : va_at D vwCl (r 9, mm_cell cA r (muM 9) (sM 9)) H := hP 9 _ rfl
set_option maxRecDepth 100000 in
theorem fM_10 {D : va_G} {H : Heap} {cA : Nat → ClassId} {r : Nat → Nat} (hP : va_P D vwCl (wX7 cA r) H) : va_at D vwCl (r 10, mm_cell cA r (muM 10) (sM 10)) H := hP 10 _ rfl
set_option maxRecDepth 100000 in
theorem fM_11 {D : va_G} {H : Heap} {cA : Nat → ClassId} {r : Nat → Nat} (hP : va_P D vwCl (wX7 cA r) H) : va_at D vwCl (r 11, mm_cell cA r (muM 11) (sM 11)) H := hP 11 _ rfl
set_option maxRecDepth 100000 in
theorem fM_12 {D : va_G} {H : Heap} {cA : Nat → ClassId} {r : Nat → Nat} (hP : va_P D vwCl (wX7 cA r) H) : va_at D vwCl (r 12, mm_cell cA r (muM 12) (sM 12)) H := hP 12 _ rfl
set_option maxRecDepth 100000 in
theorem fM_13 {D : va_G} {H : Heap} {cA : Nat → ClassId} {r : Nat → Nat} (hP : va_P D vwCl (wX7 cA r) H) : va_at D vwCl (r 13, mm_cell cA r (muM 13) (sM 13)) H := hP 13 _ rfl
set_option maxRecDepth 100000 in
theorem fM_14 {D : va_G} {H : Heap} {cA : Nat → ClassId} {r : Nat → Nat} (hP : va_P D vwCl (wX7 cA r) H) : va_at D vwCl (r 14, mm_cell cA r (muM 14) (sM 14)) H := hP 14 _ rfl
set_option maxRecDepth 100000 in
theorem fM_15 {D : va_G} {H : Heap} {cA : Nat → ClassId} {r : Nat → Nat} (hP : va_P D vwCl (wX7 cA r) H) : va_at D vwCl (r 15, mm_cell cA r (muM 15) (sM 15)) H := hP 15 _ rfl
set_option maxRecDepth 100000 in
theorem fM_16 {D : va_G} {H : Heap} {cA : Nat → ClassId} {r : Nat → Nat} (hP : va_P D vwCl (wX7 cA r) H) : va_at D vwCl (r 16, mm_cell cA r (muM 16) (sM 16)) H := hP 16 _ rfl
set_option maxRecDepth 100000 in
theorem fM_17 {D : va_G} {H : Heap} {cA : Nat → ClassId} {r : Nat → Nat} (hP : va_P D vwCl (wX7 cA r) H) : va_at D vwCl (r 17, mm_cell cA r (muM 17) (sM 17)) H := hP 17 _ rfl
set_option maxRecDepth 100000 in
theorem fM_18 {D : va_G} {H : Heap} {cA : Nat → ClassId} {r : Nat → Nat} (hP : va_P D vwCl (wX7 cA r) H) : va_at D vwCl (r 18, mm_cell cA r (muM 18) (sM 18)) H := hP 18 _ rfl
set_option maxRecDepth 100000 in
theorem fM_19 {D : va_G} {H : Heap} {cA : Nat → ClassId} {r : Nat → Nat} (hP : va_P D vwCl (wX7 cA r) H) : va_at D vwCl (r 19, mm_cell cA r (muM 19) (sM 19)) H := hP 19 _ rfl
set_option maxRecDepth 100000 in
theorem fM_20 {D : va_G} {H : Heap} {cA : Nat → ClassId} {r : Nat → Nat} (hP : va_P D vwCl (wX7 cA r) H) : va_at D vwCl (r 20, mm_cell cA r (muM 20) (sM 20)) H := hP 20 _ rfl
set_option maxRecDepth 100000 in
theorem fM_21 {D : va_G} {H : Heap} {cA : Nat → ClassId} {r : Nat → Nat} (hP : va_P D vwCl (wX7 cA r) H) : va_at D vwCl (r 21, mm_cell cA r (muM 21) (sM 21)) H := hP 21 _ rfl
set_option maxRecDepth 100000 in
theorem fM_22 {D : va_G} {H : Heap} {cA : Nat → ClassId} {r : Nat → Nat} (hP : va_P D vwCl (wX7 cA r) H) : va_at D vwCl (r 22, mm_cell cA r (muM 22) (sM 22)) H := hP 22 _ rfl
set_option maxRecDepth 100000 in
theorem fM_23 {D : va_G} {H : Heap} {cA : Nat → ClassId} {r : Nat → Nat} (hP : va_P D vwCl (wX7 cA r) H) : va_at D vwCl (r 23, mm_cell cA r (muM 23) (sM 23)) H := hP 23 _ rfl
set_option maxRecDepth 100000 in
theorem fM_24 {D : va_G} {H : Heap} {cA : Nat → ClassId} {r : Nat → Nat} (hP : va_P D vwCl (wX7 cA r) H) : va_at D vwCl (r 24, mm_cell cA r (muM 24) (sM 24)) H := hP 24 _ rfl
set_option maxRecDepth 100000 in
theorem fM_25 {D : va_G} {H : Heap} {cA : Nat → ClassId} {r : Nat → Nat} (hP : va_P D vwCl (wX7 cA r) H) : va_at D vwCl (r 25, mm_cell cA r (muM 25) (sM 25)) H := hP 25 _ rfl
set_option maxRecDepth 100000 in
theorem fM_26 {D : va_G} {H : Heap} {cA : Nat → ClassId} {r : Nat → Nat} (hP : va_P D vwCl (wX7 cA r) H) : va_at D vwCl (r 26, mm_cell cA r (muM 26) (sM 26)) H := hP 26 _ rfl
set_option maxRecDepth 100000 in
theorem fM_27 {D : va_G} {H : Heap} {cA : Nat → ClassId} {r : Nat → Nat} (hP : va_P D vwCl (wX7 cA r) H) : va_at D vwCl (r 27, mm_cell cA r (muM 27) (sM 27)) H := hP 27 _ rfl
theorem firstM {D : va_G} {H : Heap} {cA : Nat → ClassId} {r : Nat → Nat} (hP : va_P D vwCl (wX7 cA r) H) : va_P D vwCl (mm_ws cA r sM 28 muM) H := by
  intro k q hq
  obtain ⟨hk, rfl⟩ := mm_ws_at hq
  exact match k, hk with
  | 0, _ => fM_0 hP
  | 1, _ => fM_1 hP
  | 2, _ => fM_2 hP
  | 3, _ => fM_3 hP
  | 4, _ => fM_4 hP
  | 5, _ => fM_5 hP
  | 6, _ => fM_6 hP
  | 7, _ => fM_7 hP
  | 8, _ => fM_8 hP
  | 9, _ => fM_9 hP
  | 10, _ => fM_10 hP
  | 11, _ => fM_11 hP
  | 12, _ => fM_12 hP
  | 13, _ => fM_13 hP
  | 14, _ => fM_14 hP
  | 15, _ => fM_15 hP
  | 16, _ => fM_16 hP
  | 17, _ => fM_17 hP
  | 18, _ => fM_18 hP
  | 19, _ => fM_19 hP
  | 20, _ => fM_20 hP
  | 21, _ => fM_21 hP
  | 22, _ => fM_22 hP
  | 23, _ => fM_23 hP
  | 24, _ => fM_24 hP
  | 25, _ => fM_25 hP
  | 26, _ => fM_26 hP
  | 27, _ => fM_27 hP
  | k + 28, h => absurd h (by omega)
