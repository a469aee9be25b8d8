theorem l_P1 {D : va_G} {w1 w2 : va_W} {H : Heap} (h : va_P D vwCl (w1 ++ w2) H) : va_P D vwCl w1 H := fun k q hk => h k q (by rw [List.getElem?_append_left (List.getElem?_eq_some_iff.mp hk).1]; exact hk)
theorem l_P2 {D : va_G} {w1 w2 : va_W} {H : Heap} (h : va_P D vwCl (w1 ++ w2) H) : va_P D vwCl w2 H := fun k q hk => h (w1.length + k) q (by rw [List.getElem?_append_right (Nat.le_add_right _ _), Nat.add_sub_cancel_left]; exact hk)
theorem l_D1 {A : Nat → Prop} {w1 w2 : va_W} (h : va_D A (w1 ++ w2)) : va_D A w1 :=
  ⟨fun i j x y hi hj e => h.1 i j x y (by rw [List.getElem?_append_left (List.getElem?_eq_some_iff.mp hi).1]; exact hi) (by rw [List.getElem?_append_left (List.getElem?_eq_some_iff.mp hj).1]; exact hj) e, fun k q hk => h.2 k q (by rw [List.getElem?_append_left (List.getElem?_eq_some_iff.mp hk).1]; exact hk)⟩
theorem l_at2 {w1 w2 : va_W} {k : Nat} {q : Nat × va_E} (hk : w2[k]? = some q) : (w1 ++ w2)[w1.length + k]? = some q := by rw [List.getElem?_append_right (Nat.le_add_right _ _), Nat.add_sub_cancel_left]; exact hk
theorem l_D2 {A : Nat → Prop} {w1 w2 : va_W} (h : va_D A (w1 ++ w2)) : va_D A w2 :=
  ⟨fun i j x y hi hj e => by have := h.1 _ _ x y (l_at2 (w1 := w1) hi) (l_at2 (w1 := w1) hj) e; omega, fun k q hk => h.2 _ q (l_at2 (w1 := w1) hk)⟩
theorem l_D12 {A : Nat → Prop} {w1 w2 : va_W} (h : va_D A (w1 ++ w2)) {i j : Nat} {x y : Nat × va_E} (hi : w1[i]? = some x) (hj : w2[j]? = some y) : x.1 ≠ y.1 := fun e => by
  have hl := (List.getElem?_eq_some_iff.mp hi).1
  have := h.1 i _ x y (by rw [List.getElem?_append_left hl]; exact hi) (l_at2 (w1 := w1) hj) e
  omega
theorem l_SX {A B : Nat → Prop} {tt sK sV : Nat → Nat} {qv : Value} {U : State} {H : Heap} (h : mm_SX A tt sK sV qv U H) (hB : ∀ q, B q → A q) : mm_SX B tt sK sV qv U H := by
  obtain ⟨h1, h2, h3, h4, h5, h8, h9, h10, h11⟩ := h
  exact ⟨h1, h2, fun k hk => va_Z.narrow (h3 k hk) hB, fun k hk => va_T.narrow (h4 k hk) hB, h5, vk_S.narrow h8 hB, va_Z.narrow h9 hB, va_Z.narrow h10 hB, h11⟩
theorem whole_start {p : Program} {e : Env} {s : State} {m : MethodId} {below : List Frame} {meth : Method} {c : Code} (l : Launch) {b L : Nat} {xs : Nat → Int32} (hL : L ≤ 3072) (C0 : lw_At p s m meth c b L xs) : W p l e room_1 s m #[Value.ref b] below meth c s.heap [] 0 0 (lw_Z below #[Value.ref b] s) (entryFrame m ([Value.ref b] : List Value).toArray 4) := by
  have C1 := C0
  obtain ⟨hx, hb, hr, hml, hown, hts0, hX, hbl, hlocks, hgv⟩ := C0
  have hts := l_tb hts0
  obtain ⟨D, cA, hK⟩ := k_all hts0
  obtain ⟨tt, sK, sV, qv, hSX, hSS⟩ := sv_all (A := fun q : Nat => s.heap.size ≤ q) hts0 hgv (fun a h => Nat.not_le.mpr h)
  have hS : va_S (fun q : Nat => s.heap.size ≤ q) s.heap s.heap [] := va_S.rf
  have hP : va_P D vwCl [] s.heap := fun k q h => by simp at h
  have hD : va_D (fun q : Nat => s.heap.size ≤ q) [] := ⟨fun i j p q h => by simp at h, fun k q h => by simp at h⟩
  have hl := lv_entry ([.ref b]) (n := 4) (Nat.le_of_ble_eq_true rfl)
  rw [lg_entry_eq]
  generalize (lg_sl ([.ref b]) ++ List.replicate (4 - (lg_sl ([.ref b])).length) Slot.unset).toArray = ls at hl ⊢
  have hl : lv_has ls 4 [(0, .ref b)] := hl
  refine l_make (cc := cL_law) (nL := 4) (own := RL) g_okX hx hb hml hown hts hK hSS (fun _ h => h) dL_law_0 dL_law_3 dL_law_4 wY_X6 tyX6_ok wq_L_7 wz_X6 wn_X6 (ci := 6) rfl (by decide) (kX6_init (t0 := tt 0)) wc_X6_init wn_X6 wl_L_9 wi_X6_init rfl (by decide +kernel) ⟨by decide, by decide⟩ ⟨Nat.le_of_ble_eq_true rfl, Nat.le_of_ble_eq_true rfl⟩ [] rfl hP hD hS hl (fun r H1 locs1 hP1 hD1 hS1 => ?_)
  refine lv_astore_n (lv' := [(1, .ref (r 0)), (0, .ref b)]) hx hb dL_law_7 rfl hl (by decide) rfl (fun ls hl => ?_)
  refine l_make (cc := cL_law) (nL := 4) (own := RL) l_okM hx hb hml hown hts hK trivial (fun _ h => h) dL_law_8 dL_law_11 dL_law_12 wY_X7 tyX7_ok wq_L_10 wz_X7 wn_X7 (ci := 7) rfl (by decide) (kX7_init (t0 := 0)) wc_X7_init wn_X7 wl_L_12 wi_X7_init rfl (by decide +kernel) ⟨by decide, by decide⟩ ⟨Nat.le_of_ble_eq_true rfl, Nat.le_of_ble_eq_true rfl⟩ (wX6 cA r) (g_nd _ (Nat.le_of_ble_eq_true rfl)) hP1 hD1 hS1 hl (fun r2 H2 locs2 hP2 hD2 hS2 => ?_)
  refine lv_astore_n (lv' := [(2, .ref (r2 0)), (1, .ref (r 0)), (0, .ref b)]) hx hb dL_law_15 rfl hl (by decide) rfl (fun ls hl => ?_)
  refine lv_iconst (v := 0) hx hb dL_law_16 (by decide) ?_
  refine lv_istore_n (lv' := [(3, .int 0), (2, .ref (r2 0)), (1, .ref (r 0)), (0, .ref b)]) hx hb dL_law_17 rfl hl (by decide) rfl (fun ls hl => ?_)
  have dx := l_D1 hD2
  have dm := l_D2 hD2
  have X : lC p s m meth c b L xs D cA (fun k => r (permX k)) r2 tt sK sV qv := by
    refine ⟨C1, hL, hK, l_SX hSX (fun q ⟨k, hk, e⟩ => by rw [e]; exact aX dx k hk), jX dx, jM dm, aX dx, aM dm, fun i j hi hj => ?_⟩
    obtain ⟨_, e1⟩ := atX (cA := cA) (r := r) (permX i) (perm_in i hi)
    obtain ⟨_, e2⟩ := atM (cA := cA) (r := r2) j hj
    exact l_D12 hD2 e1 e2
  have px : va_P D vwCl (mm_ws cA (fun k => r (permX k)) sX NX (enc si0)) H2 := by rw [enc_si0]; exact firstX (l_P1 hP2)
  have pm : va_P D vwCl (mm_ws cA r2 sM NM (enc ta0)) H2 := by rw [enc_ta0]; exact firstM (l_P2 hP2)
  exact l_loop X (L + 1) 0 (Nat.zero_le _) (by omega) si0 ta0 rx0 H2 locs2 ls px pm hS2 hl
