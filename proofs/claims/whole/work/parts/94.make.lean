section LMAKE
variable {p : Program} {l : Launch} {e : Env} {R : Room} {s : State} {m : MethodId} {args : Array Value} {below : List Frame} {meth : Method} {c : Code} {cells slots : Nat} {Q : State → Prop}
variable {cc : ByteArray} {nL : Nat} {own : String} {pc : Nat} {D : va_G} {A : Nat → Prop} {cA : Nat → ClassId} {lv : List (Nat × Value)}
/-- new, dup, <init>: a world more -/
theorem l_make {SS : (Nat → Prop) → State → Prop} (ok : gOk SS) {w0 : Cond} (hx : p.tables.exec = Jvm.exec) (hb : c.code = cc) (hml : c.maxLocals = nL) (hown : s.vm.findClass own = some m.cls) (hts : ∀ w ∈ w0 :: mm_TB, w.before args s = true) (hK : va_K D vwCl (mm_ty cA) s) (hss : SS A s) (hA : ∀ q, s.heap.size ≤ q → A q) {C : String} {T : u_T} {N ci index idx : Nat} {ty : Nat → FieldType} {fs : List Value} {y : MethodName} {cc' : ByteArray} {nL' : Nat} {rm : Room} {w : (Nat → Nat) → va_W}
    (hd : decode cc pc = .ok (.new index, 3)) (hd1 : decode cc (pc + 3) = .ok (.dup, 1)) (hd2 : decode cc (pc + 4) = .ok (.invokespecial idx, 3))
    (hY : ∀ w ∈ u_ws C T N, w ∈ mm_TB) (hty : ∀ k, k < N → parseFieldDescriptor (T k).2.2.1 = some (ty k)) (hq : Cond.classLink own index C ∈ mm_TB) (hz : Cond.instantiable C N ∈ mm_TB) (hi : Cond.initialized C ∈ mm_TB) (hci : vwCl[ci]? = some (C, T, N)) (hfs : ∀ j, j < N → defaultValue (ty j) = vp_V fs j)
    (hM : gM l D cA SS y cc' nL' rm ci fs w) (hcode : Cond.code y cc' nL' none ∈ mm_TB) (hyi : Cond.initialized y.cls ∈ mm_TB) (hlk : Cond.methodLink own idx y ∈ mm_TB) (him : Cond.instanceMethod y ∈ mm_TB) (hy1 : y.name = "<init>")
    (hdd : y.cls ≠ "java/lang/invoke/MethodHandle" ∧ y.cls ≠ "java/lang/invoke/VarHandle" ∧ (parseMethodDescriptor y.desc).map (fun d => d.parameters.length) = some 0) (hR : rm.frames + 1 ≤ R.frames ∧ 8 + (nL' + 11) + rm.locals ≤ R.locals) (hcs : cells + 1 + rm.cells ≤ R.cells ∧ slots + N + rm.slots ≤ R.slots) (X0 : va_W) (hnd : va_nd (List.range X0.length) = true)
    {H : Heap} {locs : List Loc} {ls : Array Slot} (hP : va_P D vwCl X0 H) (hD : va_D A X0) (hS : va_S A s.heap H locs) (hl : lv_has ls nL lv)
    (kk : ∀ (r : Nat → Nat) (H1 : Heap) (locs1 : List Loc), va_P D vwCl (X0 ++ w r) H1 → va_D A (X0 ++ w r) → va_S A s.heap H1 locs1 → W p l e R s m args below meth c H1 locs1 (cells + 1 + rm.cells) (slots + N + rm.slots) Q (F0 m (pc + 7) ls [.ref (r 0)])) : W p l e R s m args below meth c H locs cells slots Q (F0 m pc ls []) := by
  have ht := fun w h => hts w (List.mem_cons_of_mem w0 h)
  refine va_new (D := D) (cl := vwCl) (fs := fs) hx hb hts (fun w h => List.mem_cons_of_mem _ (hY w h)) ty hty hown (ht _ hq) (ht _ hz) (ht _ hi) hK hP hD hS hA hci hfs (by omega) (by omega) hd (fun q H1 hP1 hD1 hS1 => ?_)
  refine lv_dup hx hb hd1 rfl ?_
  have hPc : va_P D vwCl [(q, .inr (ci, fs))] H1 := fun k x hx => by
    have hz : k < 1 := (List.getElem?_eq_some_iff.mp hx).1
    rw [show k = 0 by omega] at hx
    cases hx
    exact hP1 X0.length _ (by simp)
  have hFc := va_free (wc := [(q, .inr (ci, fs))]) hD1 hS1 hA [X0.length] (g_one X0 _)
  refine va_callv (va_runI (As := []) (rest := [.ref q]) ⟨hx, hb, hml, hown, hts⟩ (hM q H1.size) (cwI 0 hts (mm_good hcode) rfl rfl rfl (ht _ hyi) (ht _ hlk) (ht _ him) hy1 hdd hR) ⟨fun a U g mk z => by obtain ⟨q0, q1, qP, qK, qS⟩ := z; exact ⟨q0, q1, qP, va_K.moved (u := U) (U := U.calling g mk a) (Vm.Alike.refl U.vm) qK, ok.2.2 _ _ _ _ _ qS⟩, fun U hU hW => ⟨rfl, by rw [hU], by rw [hU]; exact hPc, va_K.moved hW.alike hK, ok.1 _ _ _ (ok.2.1 _ _ _ _ _ hss hW hU hS1) hFc⟩⟩ rfl rfl hl.1 rfl (lv_room (Nat.le_of_ble_eq_true rfl)) hd2 hcs) hS1 (fun q _ h => hFc q h) hFc (fun r t H2 locs2 ht1 hvm hr hB hz1 hk1 hS2 => ?_)
  obtain ⟨hP2, hD2⟩ := hB
  rw [ht1] at hP2
  obtain ⟨hP3, hD3⟩ := va_join (wr := X0) (w1 := w r) hP1 hD1 [X0.length] (List.range X0.length) (g_one X0 _) (g_range X0 _) hnd (fun i h => by rw [List.mem_range] at h; simp; omega) hk1 hFc hP2 hD2
  rw [← hr]
  exact kk r H2 locs2 hP3 hD3 hS2
theorem l_okM : gOk (fun _ _ => True) := ⟨fun _ _ _ _ _ => trivial, fun _ _ _ _ _ _ _ _ _ => trivial, fun _ _ _ _ _ _ => trivial⟩
end LMAKE
