theorem g_arrV {k : ClassId} {N : Nat} {f g : Nat → Value} (h : ∀ j, j < N → f j = g j) : arrV k N f = arrV k N g := by
  have e : (List.range N).map f = (List.range N).map g := List.map_congr_left (fun j hj => h j (List.mem_range.mp hj))
  simp only [arrV]
  first | rw [e] | (congr 1; apply Array.ext_getElem?; intro i; by_cases hi : i < N <;> simp [hi, h i])
theorem g_refs {D : va_G} {H : Heap} {x n : Nat} {k : ClassId} {f g : Nat → Option Nat} (h : va_at D vwCl (x, .inl (k, n, .inr (.inr (.inr (.inr f))))) H) (e : ∀ j, j < n → f j = g j) : va_at D vwCl (x, .inl (k, n, .inr (.inr (.inr (.inr g))))) H := by
  have h1 : H[x]? = some (vp_cell k (n, .inr (.inr (.inr (.inr f))))) := h
  show H[x]? = some (vp_cell k (n, .inr (.inr (.inr (.inr g)))))
  rw [h1, vp_cell_q, vp_cell_q, g_arrV (fun j hj => congrArg va_rf (e j hj))]
def permX (k : Nat) : Nat := if k < 49 then k else if k < 53 then 49 + 2 * (k - 49) else 50 + 2 * (k - 53)
/-- the class's memory after its constructor -/
def muX (k : Nat) : Nat → Int32 := if k = 1 then (fun j => if j = 0 then 20 else 0) else if k = 14 then (fun j => if j = 0 then 20 else 0) else if k = 2 then va_cpy g_first (fun _ => 0) 0 0 6 else if k = 15 then va_cpy g_first (fun _ => 0) 0 0 6 else if 49 ≤ k ∧ k < 53 then (fun j => if j = 0 then -1 else 0) else fun _ => 0

set_option maxRecDepth 100000 in
theorem fX_0 {D : va_G} {H : Heap} {cA : Nat → ClassId} {r : Nat → Nat} (hP : va_P D vwCl (wX6 cA r) H) : va_at D vwCl (r (permX 0), mm_cell cA (fun k => r (permX k)) (muX 0) (sX 0)) H := hP 0 _ rfl
set_option maxRecDepth 100000 in
theorem fX_1 {D : va_G} {H : Heap} {cA : Nat → ClassId} {r : Nat → Nat} (hP : va_P D vwCl (wX6 cA r) H) : va_at D vwCl (r (permX 1), mm_cell cA (fun k => r (permX k)) (muX 1) (sX 1)) H := hP 1 _ rfl
set_option maxRecDepth 100000 in
theorem fX_2 {D : va_G} {H : Heap} {cA : Nat → ClassId} {r : Nat → Nat} (hP : va_P D vwCl (wX6 cA r) H) : va_at D vwCl (r (permX 2), mm_cell cA (fun k => r (permX k)) (muX 2) (sX 2)) H := hP 2 _ rfl
set_option maxRecDepth 100000 in
theorem fX_3 {D : va_G} {H : Heap} {cA : Nat → ClassId} {r : Nat → Nat} (hP : va_P D vwCl (wX6 cA r) H) : va_at D vwCl (r (permX 3), mm_cell cA (fun k => r (permX k)) (muX 3) (sX 3)) H := g_refs (hP 3 _ rfl) (fun j hj => match j, hj with
    | 0, _ => rfl
    | 1, _ => rfl
    | 2, _ => rfl
    | 3, _ => rfl
    | 4, _ => rfl
    | 5, _ => rfl
    | 6, _ => rfl
    | 7, _ => rfl
    | 8, _ => rfl
    | 9, _ => rfl
    | j + 10, h => absurd h (by omega))
set_option maxRecDepth 100000 in
theorem fX_4 {D : va_G} {H : Heap} {cA : Nat → ClassId} {r : Nat → Nat} (hP : va_P D vwCl (wX6 cA r) H) : va_at D vwCl (r (permX 4), mm_cell cA (fun k => r (permX k)) (muX 4) (sX 4)) H := hP 4 _ rfl
set_option maxRecDepth 100000 in
theorem fX_5 {D : va_G} {H : Heap} {cA : Nat → ClassId} {r : Nat → Nat} (hP : va_P D vwCl (wX6 cA r) H) : va_at D vwCl (r (permX 5), mm_cell cA (fun k => r (permX k)) (muX 5) (sX 5)) H := hP 5 _ rfl
set_option maxRecDepth 100000 in
theorem fX_6 {D : va_G} {H : Heap} {cA : Nat → ClassId} {r : Nat → Nat} (hP : va_P D vwCl (wX6 cA r) H) : va_at D vwCl (r (permX 6), mm_cell cA (fun k => r (permX k)) (muX 6) (sX 6)) H := hP 6 _ rfl
set_option maxRecDepth 100000 in
theorem fX_7 {D : va_G} {H : Heap} {cA : Nat → ClassId} {r : Nat → Nat} (hP : va_P D vwCl (wX6 cA r) H) : va_at D vwCl (r (permX 7), mm_cell cA (fun k => r (permX k)) (muX 7) (sX 7)) H := hP 7 _ rfl
set_option maxRecDepth 100000 in
theorem fX_8 {D : va_G} {H : Heap} {cA : Nat → ClassId} {r : Nat → Nat} (hP : va_P D vwCl (wX6 cA r) H) : va_at D vwCl (r (permX 8), mm_cell cA (fun k => r (permX k)) (muX 8) (sX 8)) H := hP 8 _ rfl
set_option maxRecDepth 100000 in
theorem fX_9 {D : va_G} {H : Heap} {cA : Nat → ClassId} {r : Nat → Nat} (hP : va_P D vwCl (wX6 cA r) H) : va_at D vwCl (r (permX 9), mm_cell cA (fun k => r (permX k)) (muX 9) (sX 9)) H := hP 9 _ rfl
set_option maxRecDepth 100000 in
theorem fX_10 {D : va_G} {H : Heap} {cA : Nat → ClassId} {r : Nat → Nat} (hP : va_P D vwCl (wX6 cA r) H) : va_at D vwCl (r (permX 10), mm_cell cA (fun k => r (permX k)) (muX 10) (sX 10)) H := hP 10 _ rfl
set_option maxRecDepth 100000 in
theorem fX_11 {D : va_G} {H : Heap} {cA : Nat → ClassId} {r : Nat → Nat} (hP : va_P D vwCl (wX6 cA r) H) : va_at D vwCl (r (permX 11), mm_cell cA (fun k => r (permX k)) (muX 11) (sX 11)) H := hP 11 _ rfl
set_option maxRecDepth 100000 in
theorem fX_12 {D : va_G} {H : Heap} {cA : Nat → ClassId} {r : Nat → Nat} (hP : va_P D vwCl (wX6 cA r) H) : va_at D vwCl (r (permX 12), mm_cell cA (fun k => r (permX k)) (muX 12) (sX 12)) H := hP 12 _ rfl
set_option maxRecDepth 100000 in
theorem fX_13 {D : va_G} {H : Heap} {cA : Nat → ClassId} {r : Nat → Nat} (hP : va_P D vwCl (wX6 cA r) H) : va_at D vwCl (r (permX 13), mm_cell cA (fun k => r (permX k)) (muX 13) (sX 13)) H := hP 13 _ rfl
set_option maxRecDepth 100000 in
theorem fX_14 {D : va_G} {H : Heap} {cA : Nat → ClassId} {r : Nat → Nat} (hP : va_P D vwCl (wX6 cA r) H) : va_at D vwCl (r (permX 14), mm_cell cA (fun k => r (permX k)) (muX 14) (sX 14)) H := hP 14 _ rfl
set_option maxRecDepth 100000 in
theorem fX_15 {D : va_G} {H : Heap} {cA : Nat → ClassId} {r : Nat → Nat} (hP : va_P D vwCl (wX6 cA r) H) : va_at D vwCl (r (permX 15), mm_cell cA (fun k => r (permX k)) (muX 15) (sX 15)) H := hP 15 _ rfl
set_option maxRecDepth 100000 in
theorem fX_16 {D : va_G} {H : Heap} {cA : Nat → ClassId} {r : Nat → Nat} (hP : va_P D vwCl (wX6 cA r) H) : va_at D vwCl (r (permX 16), mm_cell cA (fun k => r (permX k)) (muX 16) (sX 16)) H := g_refs (hP 16 _ rfl) (fun j hj => match j, hj with
    | 0, _ => rfl
    | 1, _ => rfl
    | 2, _ => rfl
    | 3, _ => rfl
    | 4, _ => rfl
    | 5, _ => rfl
    | 6, _ => rfl
    | 7, _ => rfl
    | 8, _ => rfl
    | 9, _ => rfl
    | j + 10, h => absurd h (by omega))
set_option maxRecDepth 100000 in
theorem fX_17 {D : va_G} {H : Heap} {cA : Nat → ClassId} {r : Nat → Nat} (hP : va_P D vwCl (wX6 cA r) H) : va_at D vwCl (r (permX 17), mm_cell cA (fun k => r (permX k)) (muX 17) (sX 17)) H := hP 17 _ rfl
set_option maxRecDepth 100000 in
theorem fX_18 {D : va_G} {H : Heap} {cA : Nat → ClassId} {r : Nat → Nat} (hP : va_P D vwCl (wX6 cA r) H) : va_at D vwCl (r (permX 18), mm_cell cA (fun k => r (permX k)) (muX 18) (sX 18)) H := hP 18 _ rfl
set_option maxRecDepth 100000 in
theorem fX_19 {D : va_G} {H : Heap} {cA : Nat → ClassId} {r : Nat → Nat} (hP : va_P D vwCl (wX6 cA r) H) : va_at D vwCl (r (permX 19), mm_cell cA (fun k => r (permX k)) (muX 19) (sX 19)) H := hP 19 _ rfl
set_option maxRecDepth 100000 in
theorem fX_20 {D : va_G} {H : Heap} {cA : Nat → ClassId} {r : Nat → Nat} (hP : va_P D vwCl (wX6 cA r) H) : va_at D vwCl (r (permX 20), mm_cell cA (fun k => r (permX k)) (muX 20) (sX 20)) H := hP 20 _ rfl
set_option maxRecDepth 100000 in
theorem fX_21 {D : va_G} {H : Heap} {cA : Nat → ClassId} {r : Nat → Nat} (hP : va_P D vwCl (wX6 cA r) H) : va_at D vwCl (r (permX 21), mm_cell cA (fun k => r (permX k)) (muX 21) (sX 21)) H := hP 21 _ rfl
set_option maxRecDepth 100000 in
theorem fX_22 {D : va_G} {H : Heap} {cA : Nat → ClassId} {r : Nat → Nat} (hP : va_P D vwCl (wX6 cA r) H) : va_at D vwCl (r (permX 22), mm_cell cA (fun k => r (permX k)) (muX 22) (sX 22)) H := hP 22 _ rfl
set_option maxRecDepth 100000 in
theorem fX_23 {D : va_G} {H : Heap} {cA : Nat → ClassId} {r : Nat → Nat} (hP : va_P D vwCl (wX6 cA r) H) : va_at D vwCl (r (permX 23), mm_cell cA (fun k => r (permX k)) (muX 23) (sX 23)) H := hP 23 _ rfl
set_option maxRecDepth 100000 in
theorem fX_24 {D : va_G} {H : Heap} {cA : Nat → ClassId} {r : Nat → Nat} (hP : va_P D vwCl (wX6 cA r) H) : va_at D vwCl (r (permX 24), mm_cell cA (fun k => r (permX k)) (muX 24) (sX 24)) H := hP 24 _ rfl
set_option maxRecDepth 100000 in
theorem fX_25 {D : va_G} {H : Heap} {cA : Nat → ClassId} {r : Nat → Nat} (hP : va_P D vwCl (wX6 cA r) H) : va_at D vwCl (r (permX 25), mm_cell cA (fun k => r (permX k)) (muX 25) (sX 25)) H := hP 25 _ rfl
set_option maxRecDepth 100000 in
theorem fX_26 {D : va_G} {H : Heap} {cA : Nat → ClassId} {r : Nat → Nat} (hP : va_P D vwCl (wX6 cA r) H) : va_at D vwCl (r (permX 26), mm_cell cA (fun k => r (permX k)) (muX 26) (sX 26)) H := hP 26 _ rfl
set_option maxRecDepth 100000 in
theorem fX_27 {D : va_G} {H : Heap} {cA : Nat → ClassId} {r : Nat → Nat} (hP : va_P D vwCl (wX6 cA r) H) : va_at D vwCl (r (permX 27), mm_cell cA (fun k => r (permX k)) (muX 27) (sX 27)) H := hP 27 _ rfl
set_option maxRecDepth 100000 in
theorem fX_28 {D : va_G} {H : Heap} {cA : Nat → ClassId} {r : Nat → Nat} (hP : va_P D vwCl (wX6 cA r) H) : va_at D vwCl (r (permX 28), mm_cell cA (fun k => r (permX k)) (muX 28) (sX 28)) H := hP 28 _ rfl
set_option maxRecDepth 100000 in
theorem fX_29 {D : va_G} {H : Heap} {cA : Nat → ClassId} {r : Nat → Nat} (hP : va_P D vwCl (wX6 cA r) H) : va_at D vwCl (r (permX 29), mm_cell cA (fun k => r (permX k)) (muX 29) (sX 29)) H := hP 29 _ rfl
set_option maxRecDepth 100000 in
theorem fX_30 {D : va_G} {H : Heap} {cA : Nat → ClassId} {r : Nat → Nat} (hP : va_P D vwCl (wX6 cA r) H) : va_at D vwCl (r (permX 30), mm_cell cA (fun k => r (permX k)) (muX 30) (sX 30)) H := hP 30 _ rfl
set_option maxRecDepth 100000 in
theorem fX_31 {D : va_G} {H : Heap} {cA : Nat → ClassId} {r : Nat → Nat} (hP : va_P D vwCl (wX6 cA r) H) : va_at D vwCl (r (permX 31), mm_cell cA (fun k => r (permX k)) (muX 31) (sX 31)) H := g_refs (hP 31 _ rfl) (fun j hj => match j, hj with
    | 0, _ => rfl
    | 1, _ => rfl
    | 2, _ => rfl
    | 3, _ => rfl
    | 4, _ => rfl
    | 5, _ => rfl
    | 6, _ => rfl
    | 7, _ => rfl
    | 8, _ => rfl
    | 9, _ => rfl
    | j + 10, h => absurd h (by omega))
set_option maxRecDepth 100000 in
theorem fX_32 {D : va_G} {H : Heap} {cA : Nat → ClassId} {r : Nat → Nat} (hP : va_P D vwCl (wX6 cA r) H) : va_at D vwCl (r (permX 32), mm_cell cA (fun k => r (permX k)) (muX 32) (sX 32)) H := hP 32 _ rfl
set_option maxRecDepth 100000 in
theorem fX_33 {D : va_G} {H : Heap} {cA : Nat → ClassId} {r : Nat → Nat} (hP : va_P D vwCl (wX6 cA r) H) : va_at D vwCl (r (permX 33), mm_cell cA (fun k => r (permX k)) (muX 33) (sX 33)) H := hP 33 _ rfl
set_option maxRecDepth 100000 in
theorem fX_34 {D : va_G} {H : Heap} {cA : Nat → ClassId} {r : Nat → Nat} (hP : va_P D vwCl (wX6 cA r) H) : va_at D vwCl (r (permX 34), mm_cell cA (fun k => r (permX k)) (muX 34) (sX 34)) H := hP 34 _ rfl
set_option maxRecDepth 100000 in
theorem fX_35 {D : va_G} {H : Heap} {cA : Nat → ClassId} {r : Nat → Nat} (hP : va_P D vwCl (wX6 cA r) H) : va_at D vwCl (r (permX 35), mm_cell cA (fun k => r (permX k)) (muX 35) (sX 35)) H := hP 35 _ rfl
set_option maxRecDepth 100000 in
theorem fX_36 {D : va_G} {H : Heap} {cA : Nat → ClassId} {r : Nat → Nat} (hP : va_P D vwCl (wX6 cA r) H) : va_at D vwCl (r (permX 36), mm_cell cA (fun k => r (permX k)) (muX 36) (sX 36)) H := hP 36 _ rfl
set_option maxRecDepth 100000 in
theorem fX_37 {D : va_G} {H : Heap} {cA : Nat → ClassId} {r : Nat → Nat} (hP : va_P D vwCl (wX6 cA r) H) : va_at D vwCl (r (permX 37), mm_cell cA (fun k => r (permX k)) (muX 37) (sX 37)) H := hP 37 _ rfl
set_option maxRecDepth 100000 in
theorem fX_38 {D : va_G} {H : Heap} {cA : Nat → ClassId} {r : Nat → Nat} (hP : va_P D vwCl (wX6 cA r) H) : va_at D vwCl (r (permX 38), mm_cell cA (fun k => r (permX k)) (muX 38) (sX 38)) H := hP 38 _ rfl
set_option maxRecDepth 100000 in
theorem fX_39 {D : va_G} {H : Heap} {cA : Nat → ClassId} {r : Nat → Nat} (hP : va_P D vwCl (wX6 cA r) H) : va_at D vwCl (r (permX 39), mm_cell cA (fun k => r (permX k)) (muX 39) (sX 39)) H := hP 39 _ rfl
set_option maxRecDepth 100000 in
theorem fX_40 {D : va_G} {H : Heap} {cA : Nat → ClassId} {r : Nat → Nat} (hP : va_P D vwCl (wX6 cA r) H) : va_at D vwCl (r (permX 40), mm_cell cA (fun k => r (permX k)) (muX 40) (sX 40)) H := hP 40 _ rfl
set_option maxRecDepth 100000 in
theorem fX_41 {D : va_G} {H : Heap} {cA : Nat → ClassId} {r : Nat → Nat} (hP : va_P D vwCl (wX6 cA r) H) : va_at D vwCl (r (permX 41), mm_cell cA (fun k => r (permX k)) (muX 41) (sX 41)) H := hP 41 _ rfl
set_option maxRecDepth 100000 in
theorem fX_42 {D : va_G} {H : Heap} {cA : Nat → ClassId} {r : Nat → Nat} (hP : va_P D vwCl (wX6 cA r) H) : va_at D vwCl (r (permX 42), mm_cell cA (fun k => r (permX k)) (muX 42) (sX 42)) H := hP 42 _ rfl
set_option maxRecDepth 100000 in
theorem fX_43 {D : va_G} {H : Heap} {cA : Nat → ClassId} {r : Nat → Nat} (hP : va_P D vwCl (wX6 cA r) H) : va_at D vwCl (r (permX 43), mm_cell cA (fun k => r (permX k)) (muX 43) (sX 43)) H := hP 43 _ rfl
set_option maxRecDepth 100000 in
theorem fX_44 {D : va_G} {H : Heap} {cA : Nat → ClassId} {r : Nat → Nat} (hP : va_P D vwCl (wX6 cA r) H) : va_at D vwCl (r (permX 44), mm_cell cA (fun k => r (permX k)) (muX 44) (sX 44)) H := hP 44 _ rfl
set_option maxRecDepth 100000 in
theorem fX_45 {D : va_G} {H : Heap} {cA : Nat → ClassId} {r : Nat → Nat} (hP : va_P D vwCl (wX6 cA r) H) : va_at D vwCl (r (permX 45), mm_cell cA (fun k => r (permX k)) (muX 45) (sX 45)) H := hP 45 _ rfl
set_option maxRecDepth 100000 in
theorem fX_46 {D : va_G} {H : Heap} {cA : Nat → ClassId} {r : Nat → Nat} (hP : va_P D vwCl (wX6 cA r) H) : va_at D vwCl (r (permX 46), mm_cell cA (fun k => r (permX k)) (muX 46) (sX 46)) H := hP 46 _ rfl
set_option maxRecDepth 100000 in
theorem fX_47 {D : va_G} {H : Heap} {cA : Nat → ClassId} {r : Nat → Nat} (hP : va_P D vwCl (wX6 cA r) H) : va_at D vwCl (r (permX 47), mm_cell cA (fun k => r (permX k)) (muX 47) (sX 47)) H := hP 47 _ rfl
set_option maxRecDepth 100000 in
theorem fX_48 {D : va_G} {H : Heap} {cA : Nat → ClassId} {r : Nat → Nat} (hP : va_P D vwCl (wX6 cA r) H) : va_at D vwCl (r (permX 48), mm_cell cA (fun k => r (permX k)) (muX 48) (sX 48)) H := g_refs (hP 48 _ rfl) (fun j hj => match j, hj with
    | 0, _ => rfl
    | 1, _ => rfl
    | 2, _ => rfl
    | 3, _ => rfl
    | j + 4, h => absurd h (by omega))
set_option maxRecDepth 100000 in
theorem fX_49 {D : va_G} {H : Heap} {cA : Nat → ClassId} {r : Nat → Nat} (hP : va_P D vwCl (wX6 cA r) H) : va_at D vwCl (r (permX 49), mm_cell cA (fun k => r (permX k)) (muX 49) (sX 49)) H := hP 49 _ rfl
set_option maxRecDepth 100000 in
theorem fX_50 {D : va_G} {H : Heap} {cA : Nat → ClassId} {r : Nat → Nat} (hP : va_P D vwCl (wX6 cA r) H) : va_at D vwCl (r (permX 50), mm_cell cA (fun k => r (permX k)) (muX 50) (sX 50)) H := hP 51 _ rfl
set_option maxRecDepth 100000 in
theorem fX_51 {D : va_G} {H : Heap} {cA : Nat → ClassId} {r : Nat → Nat} (hP : va_P D vwCl (wX6 cA r) H) : va_at D vwCl (r (permX 51), mm_cell cA (fun k => r (permX k)) (muX 51) (sX 51)) H := hP 53 _ rfl
set_option maxRecDepth 100000 in
theorem fX_52 {D : va_G} {H : Heap} {cA : Nat → ClassId} {r : Nat → Nat} (hP : va_P D vwCl (wX6 cA r) H) : va_at D vwCl (r (permX 52), mm_cell cA (fun k => r (permX k)) (muX 52) (sX 52)) H := hP 55 _ rfl
set_option maxRecDepth 100000 in
theorem fX_53 {D : va_G} {H : Heap} {cA : Nat → ClassId} {r : Nat → Nat} (hP : va_P D vwCl (wX6 cA r) H) : va_at D vwCl (r (permX 53), mm_cell cA (fun k => r (permX k)) (muX 53) (sX 53)) H := hP 50 _ rfl
set_option maxRecDepth 100000 in
theorem fX_54 {D : va_G} {H : Heap} {cA : Nat → ClassId} {r : Nat → Nat} (hP : va_P D vwCl (wX6 cA r) H) : va_at D vwCl (r (permX 54), mm_cell cA (fun k => r (permX k)) (muX 54) (sX 54)) H := hP 52 _ rfl
set_option maxRecDepth 100000 in
theorem fX_55 {D : va_G} {H : Heap} {cA : Nat → ClassId} {r : Nat → Nat} (hP : va_P D vwCl (wX6 cA r) H) : va_at D vwCl (r (permX 55), mm_cell cA (fun k => r (permX k)) (muX 55) (sX 55)) H := hP 54 _ rfl
set_option maxRecDepth 100000 in
theorem fX_56 {D : va_G} {H : Heap} {cA : Nat → ClassId} {r : Nat → Nat} (hP : va_P D vwCl (wX6 cA r) H) : va_at D vwCl (r (permX 56), mm_cell cA (fun k => r (permX k)) (muX 56) (sX 56)) H := hP 56 _ rfl
theorem firstX {D : va_G} {H : Heap} {cA : Nat → ClassId} {r : Nat → Nat} (hP : va_P D vwCl (wX6 cA r) H) : va_P D vwCl (mm_ws cA (fun k => r (permX k)) sX 57 muX) H := by
  intro k q hq
  obtain ⟨hk, rfl⟩ := mm_ws_at hq
  exact match k, hk with
  | 0, _ => fX_0 hP
  | 1, _ => fX_1 hP
  | 2, _ => fX_2 hP
  | 3, _ => fX_3 hP
  | 4, _ => fX_4 hP
  | 5, _ => fX_5 hP
  | 6, _ => fX_6 hP
  | 7, _ => fX_7 hP
  | 8, _ => fX_8 hP
  | 9, _ => fX_9 hP
  | 10, _ => fX_10 hP
  | 11, _ => fX_11 hP
  | 12, _ => fX_12 hP
  | 13, _ => fX_13 hP
  | 14, _ => fX_14 hP
  | 15, _ => fX_15 hP
  | 16, _ => fX_16 hP
  | 17, _ => fX_17 hP
  | 18, _ => fX_18 hP
  | 19, _ => fX_19 hP
  | 20, _ => fX_20 hP
  | 21, _ => fX_21 hP
  | 22, _ => fX_22 hP
  | 23, _ => fX_23 hP
  | 24, _ => fX_24 hP
  | 25, _ => fX_25 hP
  | 26, _ => fX_26 hP
  | 27, _ => fX_27 hP
  | 28, _ => fX_28 hP
  | 29, _ => fX_29 hP
  | 30, _ => fX_30 hP
  | 31, _ => fX_31 hP
  | 32, _ => fX_32 hP
  | 33, _ => fX_33 hP
  | 34, _ => fX_34 hP
  | 35, _ => fX_35 hP
  | 36, _ => fX_36 hP
  | 37, _ => fX_37 hP
  | 38, _ => fX_38 hP
  | 39, _ => fX_39 hP
  | 40, _ => fX_40 hP
  | 41, _ => fX_41 hP
  | 42, _ => fX_42 hP
  | 43, _ => fX_43 hP
  | 44, _ => fX_44 hP
  | 45, _ => fX_45 hP
  | 46, _ => fX_46 hP
  | 47, _ => fX_47 hP
  | 48, _ => fX_48 hP
  | 49, _ => fX_49 hP
  | 50, _ => fX_50 hP
  | 51, _ => fX_51 hP
  | 52, _ => fX_52 hP
  | 53, _ => fX_53 hP
  | 54, _ => fX_54 hP
  | 55, _ => fX_55 hP
  | 56, _ => fX_56 hP
  | k + 57, h => absurd h (by omega)
