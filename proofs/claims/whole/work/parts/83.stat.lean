section GJ
variable {p : Program} {l : Launch} {e : Env} {R : Room} {s : State} {m : MethodId} {args : Array Value} {below : List Frame} {meth : Method} {c : Code} {cells slots : Nat} {Q : State → Prop}
variable {cc : ByteArray} {nL : Nat} {own : String} {pc : Nat} {st : List Value} {D : va_G} {A : Nat → Prop} {a : Nat} {ws : va_W} {cA : Nat → ClassId} {lv : List (Nat × Value)} {t0 : Nat}
def g_first (j : Nat) : Int32 := ([1, 0, 5, 0, 99, 0] : List Int32).getD j 0
theorem g_getS (X : gC p s m args meth c cc nL RX3 D cA A) (hss : g_SS t0 A s) (hd : decode cc pc = .ok (.getstatic 24, 3)) (kk : gG p l e R s m args below meth c nL D A Q cells slots ws (pc + 3) lv (.ref t0 :: st)) : gG p l e R s m args below meth c nL D A Q cells slots ws pc lv st := by
  obtain ⟨hx, hb, hml, hown, ⟨w0, hts⟩, hin, hK, hA⟩ := X
  intro H locs ls hP hD hS hl
  exact va_getsN hx hb hss.2.2.2.2.1 hS hown (va_Nw.use rfl hss.2.2.2.1) (fun _ h9 => h9) hd (kk H locs ls hP hD hS hl)
theorem g_acopy (X : gC p s m args meth c cc nL own D cA A) (hss : g_SS t0 A s) {index x : Nat} (q1 : Nat) (ws' : va_W) (hd : decode cc pc = .ok (.invokestatic index, 3)) (hlk : Cond.methodLink own index arraycopyName ∈ mm_TB) (he : ws[q1]? = some (x, .inl (cA 0, 6, .inl (fun _ => 0)))) (hf : 1 ≤ R.frames) (hl0 : nativeFrameWords "java/lang/System" "arraycopy" 5 + 11 ≤ R.locals) (hw : ws.set q1 (x, .inl (cA 0, 6, .inl (va_cpy g_first (fun _ => 0) 0 0 6))) = ws')
    (kk : gG p l e R s m args below meth c nL D A Q cells slots ws' (pc + 3) lv []) : gG p l e R s m args below meth c nL D A Q cells slots ws pc lv [.int 6, .int 0, .ref x, .int 0, .ref t0] := by
  obtain ⟨hx, hb, hml, hown, ⟨w0, hts⟩, hin, hK, hA⟩ := X
  have tt := fun w h => hts w (List.mem_cons_of_mem w0 h)
  intro H locs ls hP hD hS hl T hT Y
  obtain ⟨src, v1, v2, v3, v4, -, v6, v7⟩ := hss.2.2.2.2.2.1
  have lt0 : t0 < s.heap.size := (Array.getElem?_eq_some_iff.mp v1).1
  have at0 : T.heap[t0]? = some src := by rw [hT, hS.2.1 t0 lt0 v7]; exact v1
  have dst0 : H[x]? = some (vp_cell (cA 0) (6, .inl (fun _ => 0))) := hP q1 _ he
  obtain ⟨nst, k0, hk0, cm0, kk0⟩ := v2
  obtain ⟨-, k1, hk1, cm1, kk1⟩ := (hK.2 0 _ rfl).1 6 (fun _ => .int 0)
  obtain ⟨vm', Y', step⟩ := Y.arraycopy hx hown (tt _ hlk) (tt _ wv_acopy) (tt _ wt_acopy) (tt _ wn_J10) (src := t0) (dst := x) (cs := src) (cd := vp_cell (cA 0) (6, .inl (fun _ => 0))) (srcPos := 0) (destPos := 0) (n := 6) at0 (by rw [hT]; exact dst0)
    nst (fun _ h => by cases h) v3 (fun h => by cases h) hk0 hk1 kk0 kk1 (by simp [refKind]) (by decide) (by decide) (by decide)
    (by show ¬ ((0 : Int) + 6 > _); omega)
    (by show ¬ ((0 : Int) + 6 > ((arrV (cA 0) 6 (fun _ => .int 0)).slots.size : Int)); rw [arrV_size]; decide)
    (fun _ _ i hi => by
      have hi6 : i < 6 := hi
      have e : src.slots.getD ((0 : Int32).toNatClampNeg + i) .null = .int (g_first i) := by
        rw [show (0 : Int32).toNatClampNeg + i = i from Nat.zero_add i, Array.getD_eq_getD_getElem?, v6 i hi6]
        rfl
      rw [e]
      exact ⟨rfl, trivial⟩)
    (g := F0 m pc ls [.int 6, .int 0, .ref x, .int 0, .ref t0]) rfl (by rw [hml]; exact hl.1) (rest := []) rfl (by rw [hb]; exact hd) hf (by show 2 * 0 + 0 + _ ≤ _; omega)
  have e1 : copied src (vp_cell (cA 0) (6, .inl (fun _ => 0))) 0 0 6 = vp_cell (cA 0) (6, .inl (va_cpy g_first (fun _ => 0) 0 0 6)) := va_copiedX (fun z => .int z) src (cA 0) g_first (fun _ => 0) v6 (by decide)
  rw [e1] at Y' step
  have hlx : x < H.size := (Array.getElem?_eq_some_iff.mp dst0).1
  have hAx : A x := hD.2 q1 _ he
  have o1 : ∀ q : Nat, q ≠ x → ((T.setVm vm').setCell x (vp_cell (cA 0) (6, .inl (va_cpy g_first (fun _ => 0) 0 0 6)))).heap[q]? = H[q]? := fun q hq => by
    rw [heapAt_setCell_ne _ (Ne.symm hq)]
    exact congrArg (fun h : Heap => h[q]?) hT
  have s1 : ((T.setVm vm').setCell x (vp_cell (cA 0) (6, .inl (va_cpy g_first (fun _ => 0) 0 0 6)))).heap.size = H.size := by
    rw [size_setCell]
    exact congrArg Array.size hT
  have z1 : x < (T.setVm vm').heap.size := by
    show x < Array.size T.heap
    rw [hT]
    exact hlx
  have f1 : ((T.setVm vm').setCell x (vp_cell (cA 0) (6, .inl (va_cpy g_first (fun _ => 0) 0 0 6)))).heap[x]? = some (vp_cell (cA 0) (6, .inl (va_cpy g_first (fun _ => 0) 0 0 6))) := heapAt_setCell_self _ z1
  have hP1 : va_P D vwCl (ws.set q1 (x, .inl (cA 0, 6, .inl (va_cpy g_first (fun _ => 0) 0 0 6)))) ((T.setVm vm').setCell x (vp_cell (cA 0) (6, .inl (va_cpy g_first (fun _ => 0) 0 0 6)))).heap := hP.set hD he f1 o1
  have hD1 : va_D A (ws.set q1 (x, .inl (cA 0, 6, .inl (va_cpy g_first (fun _ => 0) 0 0 6)))) := hD.set he
  rw [hw] at hD1
  obtain ⟨t, a1, b1⟩ := kk _ _ ls (hw ▸ hP1) hD1 ⟨by rw [s1]; exact hS.1, fun q g1 g2 => (o1 q (fun e => g2 (e ▸ hAx))).trans (hS.2.1 q g1 g2), fun q hq => (List.mem_append.mp hq).elim (hS.2.2 q) (fun h => by
    obtain ⟨z, -, hz⟩ := List.mem_map.mp h
    rw [← hz]
    exact hAx)⟩ hl _ rfl Y'
  exact ⟨t, step t a1, b1⟩
end GJ
