section GH
variable {p : Program} {l : Launch} {e : Env} {R : Room} {s : State} {m : MethodId} {args : Array Value} {below : List Frame} {meth : Method} {c : Code} {cells slots : Nat} {Q : State → Prop}
variable {cc : ByteArray} {nL : Nat} {own : String} {pc : Nat} {st : List Value} {D : va_G} {A : Nat → Prop} {a : Nat} {ws : va_W} {cA : Nat → ClassId} {lv : List (Nat × Value)} {t0 : Nat}
theorem g_AA_moved {u U : State} (hvm : u.vm.Alike U.vm) (h : g_AA u) : g_AA U := arrayOver_alikeB hvm h
theorem g_SS_sub {B : Nat → Prop} {U : State} (h : g_SS t0 A U) (hB : ∀ q, B q → A q) : g_SS t0 B U := by
  obtain ⟨h1, h2, h3, h4, h5, h6, h7, h8⟩ := h
  exact ⟨h1, h2, h3, h4, va_Z.narrow h5 hB, va_T.narrow h6 hB, h7, h8⟩
theorem g_SS_kept {U : State} {H : Heap} {locs : List Loc} (h : g_SS t0 A s) (hW : s.WarmedH U.vm) (hU : U.heap = H) (hS : va_S A s.heap H locs) : g_SS t0 A U := by
  obtain ⟨h1, h2, h3, h4, h5, h6, h7, h8⟩ := h
  subst hU
  exact ⟨va_AO.moved hW.alike h1, va_AO.moved hW.alike h2, g_AA_moved hW.alike h3, va_Nw.warmF hW h4, va_Z.kept (va_Z.moved hW.alike h5) hS.2.1, va_T.kept (va_T.moved hW.alike h6) hS.2.1, va_Nw.warmM hW h7, va_Nw.warmM hW h8⟩
theorem g_SS_call {U : State} {g : JFrame} {mk : MethodId} {a : Array Value} (h : g_SS t0 A U) : g_SS t0 A (U.calling g mk a) := by
  obtain ⟨h1, h2, h3, h4, h5, h6, h7, h8⟩ := h
  have e : U.vm.Alike (U.calling g mk a).vm := Vm.Alike.refl U.vm
  exact ⟨va_AO.moved e h1, va_AO.moved e h2, g_AA_moved e h3, va_Nw.same rfl (u := U) rfl h4, va_Z.moved e h5, va_T.moved e h6, va_Nw.same rfl (u := U) rfl h7, va_Nw.same rfl (u := U) rfl h8⟩
/-- a constructor's contract: from an empty object to a world, whose first object it is -/
def gM (l : Launch) (D : va_G) (cA : Nat → ClassId) (SS : (Nat → Prop) → State → Prop) (y : MethodName) (cc : ByteArray) (nL : Nat) (rm : Room) (ci : Nat) (fs : List Value) (w : (Nat → Nat) → va_W) : Prop :=
  ∀ h sz : Nat, Met l y (Cond.code y cc nL none :: mm_TB) rm (va_Pc [.ref h] (fun U => U.heap.size = sz ∧ va_P D vwCl [(h, .inr (ci, fs))] U.heap ∧ va_K D vwCl (mm_ty cA) U ∧ SS (va_A [(h, .inr (ci, fs))] sz) U))
    (va_Qv (fun r : Nat → Nat => r 0 = h) (fun r t => va_P D vwCl (w r) t.heap ∧ va_D (va_A [(h, .inr (ci, fs))] sz) (w r)) (va_A [(h, .inr (ci, fs))] sz)) rm.cells rm.slots (va_A [(h, .inr (ci, fs))] sz)
def gOk (SS : (Nat → Prop) → State → Prop) : Prop := (∀ (A B : Nat → Prop) (U : State), SS A U → (∀ q, B q → A q) → SS B U) ∧ (∀ (A : Nat → Prop) (s U : State) (H : Heap) (locs : List Loc), SS A s → s.WarmedH U.vm → U.heap = H → va_S A s.heap H locs → SS A U) ∧ ∀ (A : Nat → Prop) (U : State) (g : JFrame) (mk : MethodId) (a : Array Value), SS A U → SS A (U.calling g mk a)
theorem g_okX : gOk (g_SS t0) := ⟨fun _ _ _ h hB => g_SS_sub h hB, fun _ _ _ _ _ h hW hU hS => g_SS_kept h hW hU hS, fun _ _ _ _ _ h => g_SS_call h⟩
theorem g_range (X : va_W) (x : Nat × va_E) : (List.range X.length).map (fun i => (X ++ [x])[i]?) = X.map some := by
  apply List.ext_getElem?
  intro i
  rw [List.getElem?_map, List.getElem?_map]
  by_cases h : i < X.length
  · rw [List.getElem?_range h, Option.map_some, List.getElem?_append_left h, List.getElem?_eq_getElem h]
    rfl
  · rw [List.getElem?_eq_none (by simpa using h), List.getElem?_eq_none (by simpa using h)]
    rfl
theorem g_one (X : va_W) (x : Nat × va_E) : [X.length].map (fun i => (X ++ [x])[i]?) = [x].map some := by
  simp
theorem g_init {SS : (Nat → Prop) → State → Prop} (ok : gOk SS) (X : gC p s m args meth c cc nL own D cA A) (hss : SS A s) {y : MethodName} {cc' : ByteArray} {nL' ci idx q : Nat} {rm : Room} {fs : List Value} {w : (Nat → Nat) → va_W} (hM : gM l D cA SS y cc' nL' rm ci fs w) (X0 : va_W) (hd : decode cc pc = .ok (.invokespecial idx, 3)) (hcode : Cond.code y cc' nL' none ∈ mm_TB) (hi : Cond.initialized y.cls ∈ mm_TB) (hlk : Cond.methodLink own idx y ∈ mm_TB) (him : Cond.instanceMethod y ∈ mm_TB) (hy1 : y.name = "<init>")
    (hdd : y.cls ≠ "java/lang/invoke/MethodHandle" ∧ y.cls ≠ "java/lang/invoke/VarHandle" ∧ (parseMethodDescriptor y.desc).map (fun d => d.parameters.length) = some 0) (hR : rm.frames + 1 ≤ R.frames ∧ 8 + (nL' + 11) + rm.locals ≤ R.locals) (hst : (st.map fun v => v.category).sum ≤ 8) (hcs : cells + rm.cells ≤ R.cells ∧ slots + rm.slots ≤ R.slots) (hnd : va_nd (List.range X0.length) = true) (hw : ws = X0 ++ [(q, .inr (ci, fs))])
    (kk : ∀ r : Nat → Nat, r 0 = q → gG p l e R s m args below meth c nL D A Q (cells + rm.cells) (slots + rm.slots) (X0 ++ w r) (pc + 3) lv st) : gG p l e R s m args below meth c nL D A Q cells slots ws pc lv (.ref q :: st) := by
  obtain ⟨hx, hb, hml, hown, ⟨w0, hts⟩, hin, hK, hA⟩ := X
  intro H locs ls hP hD hS hl
  subst hw
  have ht := fun w h => hts w (List.mem_cons_of_mem w0 h)
  have hPc : va_P D vwCl [(q, .inr (ci, fs))] H := fun k x hx => by
    have hz : k < 1 := (List.getElem?_eq_some_iff.mp hx).1
    rw [show k = 0 by omega] at hx
    cases hx
    exact hP X0.length _ (by simp)
  have hFc := va_free (wc := [(q, .inr (ci, fs))]) hD hS hA [X0.length] (g_one X0 _)
  refine va_callv (va_runI (As := []) (rest := st) ⟨hx, hb, hml, hown, hts⟩ (hM q H.size) (cwI 0 hts (mm_good hcode) rfl rfl rfl (ht _ hi) (ht _ hlk) (ht _ him) hy1 hdd hR) ⟨fun a U g mk z => by obtain ⟨q0, q1, qP, qK, qS⟩ := z; exact ⟨q0, q1, qP, va_K.moved (u := U) (U := U.calling g mk a) (Vm.Alike.refl U.vm) qK, ok.2.2 _ _ _ _ _ qS⟩, fun U hU hW => ⟨rfl, by rw [hU], by rw [hU]; exact hPc, va_K.moved hW.alike hK, ok.1 _ _ _ (ok.2.1 _ _ _ _ _ hss hW hU hS) hFc⟩⟩ rfl rfl hl.1 rfl (lv_room hst) hd hcs) hS (fun q _ h => hFc q h) hFc (fun r t H1 locs1 ht1 hvm hr hB hz1 hk1 hS1 => ?_)
  obtain ⟨hP1, hD1⟩ := hB
  rw [ht1] at hP1
  obtain ⟨hP2, hD2⟩ := va_join (wr := X0) (w1 := w r) hP hD [X0.length] (List.range X0.length) (g_one X0 _) (g_range X0 _) hnd (fun i h => by rw [List.mem_range] at h; simp; omega) hk1 hFc hP1 hD1
  exact kk r hr H1 locs1 ls hP2 hD2 hS1 hl
theorem g_initN {SS : (Nat → Prop) → State → Prop} (ok : gOk SS) (X : gC p s m args meth c cc nL own D cA A) (hss : SS A s) {y : MethodName} {cc' : ByteArray} {nL' ci idx q : Nat} {rm : Room} {fs : List Value} {w : (Nat → Nat) → va_W} (hM : gM l D cA SS y cc' nL' rm ci fs w) (X0 : va_W) (hd : decode cc pc = .ok (.invokespecial idx, 3)) (hcode : Cond.code y cc' nL' none ∈ mm_TB) (hi : Cond.initialized y.cls ∈ mm_TB) (hlk : va_Nw (.methodLinkNest own idx y "PlankBridge") s) (him : Cond.instanceMethod y ∈ mm_TB) (hy1 : y.name = "<init>")
    (hdd : y.cls ≠ "java/lang/invoke/MethodHandle" ∧ y.cls ≠ "java/lang/invoke/VarHandle" ∧ (parseMethodDescriptor y.desc).map (fun d => d.parameters.length) = some 0) (hR : rm.frames + 1 ≤ R.frames ∧ 8 + (nL' + 11) + rm.locals ≤ R.locals) (hst : (st.map fun v => v.category).sum ≤ 8) (hcs : cells + rm.cells ≤ R.cells ∧ slots + rm.slots ≤ R.slots) (hnd : va_nd (List.range X0.length) = true) (hw : ws = X0 ++ [(q, .inr (ci, fs))])
    (kk : ∀ r : Nat → Nat, r 0 = q → gG p l e R s m args below meth c nL D A Q (cells + rm.cells) (slots + rm.slots) (X0 ++ w r) (pc + 3) lv st) : gG p l e R s m args below meth c nL D A Q cells slots ws pc lv (.ref q :: st) := by
  obtain ⟨hx, hb, hml, hown, ⟨w0, hts⟩, hin, hK, hA⟩ := X
  intro H locs ls hP hD hS hl
  subst hw
  have ht := fun w h => hts w (List.mem_cons_of_mem w0 h)
  have hPc : va_P D vwCl [(q, .inr (ci, fs))] H := fun k x hx => by
    have hz : k < 1 := (List.getElem?_eq_some_iff.mp hx).1
    rw [show k = 0 by omega] at hx
    cases hx
    exact hP X0.length _ (by simp)
  have hFc := va_free (wc := [(q, .inr (ci, fs))]) hD hS hA [X0.length] (g_one X0 _)
  refine va_callv (va_runIN (As := []) (rest := st) ⟨hx, hb, hml, hown, hts⟩ (hM q H.size) ⟨va_cnB 0 hts (mm_good hcode) rfl rfl rfl hlk (ht _ hi) hdd hR, hy1, ht _ him⟩ ⟨fun a U g mk z => by obtain ⟨q0, q1, qP, qK, qS⟩ := z; exact ⟨q0, q1, qP, va_K.moved (u := U) (U := U.calling g mk a) (Vm.Alike.refl U.vm) qK, ok.2.2 _ _ _ _ _ qS⟩, fun U hU hW => ⟨rfl, by rw [hU], by rw [hU]; exact hPc, va_K.moved hW.alike hK, ok.1 _ _ _ (ok.2.1 _ _ _ _ _ hss hW hU hS) hFc⟩⟩ rfl rfl hl.1 rfl (lv_room hst) hd hcs) hS (fun q _ h => hFc q h) hFc (fun r t H1 locs1 ht1 hvm hr hB hz1 hk1 hS1 => ?_)
  obtain ⟨hP1, hD1⟩ := hB
  rw [ht1] at hP1
  obtain ⟨hP2, hD2⟩ := va_join (wr := X0) (w1 := w r) hP hD [X0.length] (List.range X0.length) (g_one X0 _) (g_range X0 _) hnd (fun i h => by rw [List.mem_range] at h; simp; omega) hk1 hFc hP1 hD1
  exact kk r hr H1 locs1 ls hP2 hD2 hS1 hl
/-- the way in -/
theorem g_enter {SS : (Nat → Prop) → State → Prop} {y : MethodName} {rm : Room} {ci : Nat} {fs : List Value} {w : (Nat → Nat) → va_W} (hy : plainName y.cls = true) (hyi : y.name = "<init>") (hn1 : 1 ≤ nL)
    (body : ∀ (p : Program) (e : Env) (s : State) (m : MethodId) (below : List Frame) (meth : Method) (c : Code) (A : Nat → Prop) (h : Nat), meth.locks = false → meth.sig.returnType = none → A = va_A [(h, .inr (ci, fs))] s.heap.size → gC p s m #[Value.ref h] meth c cc nL y.cls D cA A → SS A s →
      gG p l e rm s m #[Value.ref h] below meth c nL D A (MQ below (va_Qv (fun r : Nat → Nat => r 0 = h) (fun r t => va_P D vwCl (w r) t.heap ∧ va_D A (w r)) A) #[Value.ref h] s rm.cells rm.slots A) 0 0 [(h, .inr (ci, fs))] 0 [(0, .ref h)] []) : gM l D cA SS y cc nL rm ci fs w := by
  intro h sz
  refine Met.ofW (cc := cc) (maxL := nL) (ret := none) hy rfl ?_
  intro p e s m args below meth c s₁ B hml hv
  obtain ⟨rfl, hsz, hP, hK, hss⟩ := hv
  subst hsz
  have hts := atoms_spec (ws := Cond.code y cc nL none :: mm_TB) B.pre
  have hown : s.vm.findClass y.cls = some m.cls := findClass_of_methodNamed B.named
  have hin : meth.name = "<init>" := (name_of_methodNamed B.named B.method).1.trans hyi
  have hD : va_D (va_A [(h, .inr (ci, fs))] s.heap.size) [(h, .inr (ci, fs))] := by
    refine ⟨fun i j x y hi hj _ => ?_, fun k x hx => Or.inl ⟨k, x.2, hx⟩⟩
    have h1 : i < 1 := (List.getElem?_eq_some_iff.mp hi).1
    have h2 : j < 1 := (List.getElem?_eq_some_iff.mp hj).1
    omega
  have hl := lv_entry ([.ref h]) (n := nL) hn1
  rw [lg_entry_eq]
  generalize (lg_sl ([.ref h]) ++ List.replicate (nL - (lg_sl ([.ref h])).length) Slot.unset).toArray = ls at hl ⊢
  exact body p e s m below meth c _ h B.notSynchronized B.returns rfl ⟨B.exec, B.bytes, hml, hown, ⟨_, hts⟩, hin, hK, fun q hq => Or.inr hq⟩ hss s.heap [] ls hP hD va_S.rf hl
/-- the way out -/
theorem g_ret {w : (Nat → Nat) → va_W} {h ec es : Nat} (X : gC p s m args meth c cc nL own D cA A) (hlk : meth.locks = false) (hr : meth.sig.returnType = none) (r : Nat → Nat) (hd : decode cc pc = .ok (.return_, 1)) (hr0 : r 0 = h) (hw : ws = w r) (hc : cells = ec) (hs : slots = es) : gG p l e R s m args below meth c nL D A (MQ below (va_Qv (fun r : Nat → Nat => r 0 = h) (fun r t => va_P D vwCl (w r) t.heap ∧ va_D A (w r)) A) args s ec es A) cells slots ws pc lv [] := by
  obtain ⟨hx, hb, hml, hown, ⟨w0, hts⟩, hin, hK, hA⟩ := X
  intro H locs ls hP hD hS hl
  subst hw hc hs
  exact W.vret hx hb hr (fun t ht hW => ⟨⟨r, rfl, hr0, by rw [ht]; exact hP, hD⟩, hS.F ht⟩) hS.2.2 hd hlk
end GH
