/-! constructors: a world that grows -/
section GG
variable {p : Program} {l : Launch} {e : Env} {R : Room} {s : State} {m : MethodId} {args : Array Value} {below : List Frame} {meth : Method} {c : Code} {cells slots : Nat} {Q : State → Prop}
variable {cc : ByteArray} {nL : Nat} {own : String} {pc : Nat} {st : List Value} {D : va_G} {A : Nat → Prop} {a : Nat} {ws : va_W} {cA : Nat → ClassId} {lv : List (Nat × Value)} {t0 : Nat}
/-- the array class over int rows -/
def g_AA (U : State) : Prop := (Cond.arrayOver (.array .int)).before #[] U = true
/-- what the class's constructors take as given -/
def g_SS (t0 : Nat) (A : Nat → Prop) (U : State) : Prop := va_AO RX5 U ∧ va_AO RX2 U ∧ g_AA U ∧ va_Nw (.fieldLinkNest RX3 24 "PlankBridge" "LAW_FIRST" "[I" "PlankBridge") U ∧ va_Z "PlankBridge" "LAW_FIRST" "[I" (.ref t0) A U U.heap ∧ va_T .int t0 6 (fun j => .int (([1, 0, 5, 0, 99, 0] : List Int32).getD j 0)) A U U.heap ∧ va_Nw (.methodLinkNest RX6 21 yX4_init "PlankBridge") U ∧ va_Nw (.methodLinkNest RX6 50 yX2_init "PlankBridge") U
def gC (p : Program) (s : State) (m : MethodId) (args : Array Value) (meth : Method) (c : Code) (cc : ByteArray) (nL : Nat) (own : String) (D : va_G) (cA : Nat → ClassId) (A : Nat → Prop) : Prop :=
  p.tables.exec = Jvm.exec ∧ c.code = cc ∧ c.maxLocals = nL ∧ s.vm.findClass own = some m.cls ∧ (∃ w0 : Cond, ∀ w ∈ w0 :: mm_TB, w.before args s = true) ∧ meth.name = "<init>" ∧ va_K D vwCl (mm_ty cA) s ∧ ∀ q, s.heap.size ≤ q → A q
def gG (p : Program) (l : Launch) (e : Env) (R : Room) (s : State) (m : MethodId) (args : Array Value) (below : List Frame) (meth : Method) (c : Code) (nL : Nat) (D : va_G) (A : Nat → Prop) (Q : State → Prop) (cells slots : Nat) (ws : va_W) (pc : Nat) (lv : List (Nat × Value)) (st : List Value) : Prop :=
  ∀ (H : Heap) (locs : List Loc) (ls : Array Slot), va_P D vwCl ws H → va_D A ws → va_S A s.heap H locs → lv_has ls nL lv → W p l e R s m args below meth c H locs cells slots Q (F0 m pc ls st)
theorem g_aload (X : gC p s m args meth c cc nL own D cA A) {k : Fin 4} {x : Nat} (i : Nat) (hd : decode cc pc = .ok (.aload_n k, 1)) (hv : lv[i]? = some ((k : Nat), .ref x)) (kk : gG p l e R s m args below meth c nL D A Q cells slots ws (pc + 1) lv (.ref x :: st)) : gG p l e R s m args below meth c nL D A Q cells slots ws pc lv st :=
  fun H locs ls hP hD hS hl => lv_aload_n X.1 X.2.1 hd rfl (lv_at hl i hv) (kk H locs ls hP hD hS hl)
theorem g_iload (X : gC p s m args meth c cc nL own D cA A) {k : Fin 4} {x : Int32} (i : Nat) (hd : decode cc pc = .ok (.iload_n k, 1)) (hv : lv[i]? = some ((k : Nat), .int x)) (kk : gG p l e R s m args below meth c nL D A Q cells slots ws (pc + 1) lv (.int x :: st)) : gG p l e R s m args below meth c nL D A Q cells slots ws pc lv st :=
  fun H locs ls hP hD hS hl => lv_iload_n X.1 X.2.1 hd rfl (lv_at hl i hv) (kk H locs ls hP hD hS hl)
theorem g_iconst (X : gC p s m args meth c cc nL own D cA A) {n : Int} (v : Int32) (hd : decode cc pc = .ok (.iconst n, 1)) (hv : Int32.ofInt n = v) (kk : gG p l e R s m args below meth c nL D A Q cells slots ws (pc + 1) lv (.int v :: st)) : gG p l e R s m args below meth c nL D A Q cells slots ws pc lv st :=
  fun H locs ls hP hD hS hl => lv_iconst X.1 X.2.1 hd hv (kk H locs ls hP hD hS hl)
theorem g_bipush (X : gC p s m args meth c cc nL own D cA A) {n : Int} (v : Int32) (hd : decode cc pc = .ok (.bipush n, 2)) (hv : (Int8.ofInt n).toInt32 = v) (kk : gG p l e R s m args below meth c nL D A Q cells slots ws (pc + 2) lv (.int v :: st)) : gG p l e R s m args below meth c nL D A Q cells slots ws pc lv st :=
  fun H locs ls hP hD hS hl => lv_bipush X.1 X.2.1 hd hv (kk H locs ls hP hD hS hl)
theorem g_dup (X : gC p s m args meth c cc nL own D cA A) {x : Nat} (hd : decode cc pc = .ok (.dup, 1)) (kk : gG p l e R s m args below meth c nL D A Q cells slots ws (pc + 1) lv (.ref x :: .ref x :: st)) : gG p l e R s m args below meth c nL D A Q cells slots ws pc lv (.ref x :: st) :=
  fun H locs ls hP hD hS hl => lv_dup X.1 X.2.1 hd rfl (kk H locs ls hP hD hS hl)
theorem g_istore (X : gC p s m args meth c cc nL own D cA A) {k : Fin 4} {x : Int32} (lv' : List (Nat × Value)) (hd : decode cc pc = .ok (.istore_n k, 1)) (hn : (k : Nat) < nL) (hl' : ((k : Nat), Value.int x) :: lv.filter (fun q => !(q.1 == (k : Nat)) && !(q.1 + 1 == (k : Nat) && q.2.category == 2)) = lv') (kk : gG p l e R s m args below meth c nL D A Q cells slots ws (pc + 1) lv' st) : gG p l e R s m args below meth c nL D A Q cells slots ws pc lv (.int x :: st) :=
  fun H locs _ hP hD hS hl => lv_istore_n X.1 X.2.1 hd rfl hl hn hl' (fun ls h => kk H locs ls hP hD hS h)
theorem g_iinc (X : gC p s m args meth c cc nL own D cA A) {i k : Nat} {n : Int} {x : Int32} (v : Int32) (lv' : List (Nat × Value)) (hd : decode cc pc = .ok (.iinc i n, 3)) (hk : lv[k]? = some (i, .int x)) (hv : x + Int32.ofInt n = v) (hn : i < nL) (hl' : (i, Value.int v) :: lv.filter (fun q => !(q.1 == i) && !(q.1 + 1 == i && q.2.category == 2)) = lv') (kk : gG p l e R s m args below meth c nL D A Q cells slots ws (pc + 3) lv' st) : gG p l e R s m args below meth c nL D A Q cells slots ws pc lv st :=
  fun H locs _ hP hD hS hl => lv_iinc X.1 X.2.1 hd hl hk hv hn hl' (fun ls h => kk H locs ls hP hD hS h)
theorem g_goto (X : gC p s m args meth c cc nL own D cA A) {off : Int} (tgt : Nat) (hd : decode cc pc = .ok (.goto off, 3)) (ht : (pc : Int) + off = (tgt : Int)) (kk : gG p l e R s m args below meth c nL D A Q cells slots ws tgt lv st) : gG p l e R s m args below meth c nL D A Q cells slots ws pc lv st :=
  fun H locs ls hP hD hS hl => lv_goto X.1 X.2.1 hd ht (kk H locs ls hP hD hS hl)
theorem g_icmp0 (X : gC p s m args meth c cc nL own D cA A) {x y : Int32} {off : Int} (tgt : Nat) (hd : decode cc pc = .ok (.if_icmp .ge off, 3)) (ht : (pc : Int) + off = (tgt : Int)) (h : ¬ y ≤ x) (kk : gG p l e R s m args below meth c nL D A Q cells slots ws (pc + 3) lv st) : gG p l e R s m args below meth c nL D A Q cells slots ws pc lv (.int y :: .int x :: st) :=
  fun H locs ls hP hD hS hl => lv_icmp_ge X.1 X.2.1 hd ht (fun q => absurd q h) (fun _ => kk H locs ls hP hD hS hl)
theorem g_icmp1 (X : gC p s m args meth c cc nL own D cA A) {x y : Int32} {off : Int} (tgt : Nat) (hd : decode cc pc = .ok (.if_icmp .ge off, 3)) (ht : (pc : Int) + off = (tgt : Int)) (h : y ≤ x) (kk : gG p l e R s m args below meth c nL D A Q cells slots ws tgt lv st) : gG p l e R s m args below meth c nL D A Q cells slots ws pc lv (.int y :: .int x :: st) :=
  fun H locs ls hP hD hS hl => lv_icmp_ge X.1 X.2.1 hd ht (fun _ => kk H locs ls hP hD hS hl) (fun q => absurd h q)
theorem g_objI (X : gC p s m args meth c cc nL own D cA A) {idx x : Nat} (hd : decode cc pc = .ok (.invokespecial idx, 3)) (hw : Cond.methodLink own idx objectInit ∈ mm_TB) (hf : 1 ≤ R.frames) (hlo : 12 ≤ R.locals) (kk : gG p l e R s m args below meth c nL D A Q cells slots ws (pc + 3) lv []) : gG p l e R s m args below meth c nL D A Q cells slots ws pc lv [.ref x] := by
  obtain ⟨hx, hb, hml, hown, ⟨w0, hts⟩, hin, hK, hA⟩ := X
  intro H locs ls hP hD hS hl
  have ht := fun w h => hts w (List.mem_cons_of_mem w0 h)
  refine W.objInit hx hb hown (ht _ hw) (ht _ wi_objI) (ht _ wc_objI) rfl (by rw [hml]; exact hl.1) rfl hd hf ?_ ?_
  · show 2 * 0 + 0 + 12 ≤ R.locals
    omega
  · exact W.eq (g2 := F0 m (pc + 3) ls []) rfl (kk H locs ls hP hD hS hl)
theorem g_int {k : ClassId} (h : va_K D vwCl (mm_ty cA ++ [(k, .int)]) s) : k = cA 0 := by
  have h1 : s.vm.findClass ("[" ++ FieldType.int.toString) = some k := (h.2 4 (k, .int) rfl).2
  have h2 : s.vm.findClass ("[" ++ FieldType.int.toString) = some (cA 0) := (h.2 0 (cA 0, .int) rfl).2
  exact Option.some.inj (h1.symm.trans h2)
theorem g_newa (X : gC p s m args meth c cc nL own D cA A) {n : Int32} (N' : Nat) (ws' : Nat → va_W) (hd : decode cc pc = .ok (.newarray .int, 2)) (hn : ¬ n < 0) (hN : n.toNatClampNeg = N') (hby : N' * 4 ≤ 536870912) (hc : cells + 1 ≤ R.cells) (hs : slots + N' ≤ R.slots) (hw : ∀ q, ws ++ [(q, .inl (cA 0, N', .inl (fun _ => 0)))] = ws' q)
    (kk : ∀ q, gG p l e R s m args below meth c nL D A Q (cells + 1) (slots + N') (ws' q) (pc + 2) lv (.ref q :: st)) : gG p l e R s m args below meth c nL D A Q cells slots ws pc lv (.int n :: st) := by
  obtain ⟨hx, hb, hml, hown, ⟨w0, hts⟩, hin, hK, hA⟩ := X
  intro H locs ls hP hD hS hl
  have ha : ∀ k : ClassId, vp_cell k (N', .inl (fun _ => 0)) = arrV k N' (fun _ => defaultValue .int) := fun k => (vp_cell_i k N' (fun _ => 0)).trans rfl
  refine va_newa (D := D) (cl := vwCl) (atype := .int) (ty := .int) hx hb (hts _ (List.mem_cons_of_mem _ wa_int)) rfl hK hP hD hS hA (a0 := (N', .inl (fun _ => 0))) ha hn hN hby hc hs hd (fun q c1 H1 hK1 hP1 hD1 hS1 => ?_)
  have hc1 := g_int hK1
  subst hc1
  rw [hw q] at hP1 hD1
  exact kk q H1 locs ls hP1 hD1 hS1 hl
theorem g_new (X : gC p s m args meth c cc nL own D cA A) {C : String} {T : u_T} {N ci index : Nat} {ty : Nat → FieldType} (fs : List Value) (ws' : Nat → va_W) (hd : decode cc pc = .ok (.new index, 3)) (hY : ∀ w ∈ u_ws C T N, w ∈ mm_TB) (hty : ∀ k, k < N → parseFieldDescriptor (T k).2.2.1 = some (ty k)) (hq : Cond.classLink own index C ∈ mm_TB) (hz : Cond.instantiable C N ∈ mm_TB) (hi : Cond.initialized C ∈ mm_TB) (hci : vwCl[ci]? = some (C, T, N)) (hfs : ∀ j, j < N → defaultValue (ty j) = vp_V fs j) (hc : cells + 1 ≤ R.cells) (hs : slots + N ≤ R.slots) (hw : ∀ q, ws ++ [(q, .inr (ci, fs))] = ws' q)
    (kk : ∀ q, gG p l e R s m args below meth c nL D A Q (cells + 1) (slots + N) (ws' q) (pc + 3) lv (.ref q :: st)) : gG p l e R s m args below meth c nL D A Q cells slots ws pc lv st := by
  obtain ⟨hx, hb, hml, hown, ⟨w0, hts⟩, hin, hK, hA⟩ := X
  intro H locs ls hP hD hS hl
  have ht := fun w h => hts w (List.mem_cons_of_mem w0 h)
  refine va_new (D := D) (cl := vwCl) (fs := fs) hx hb hts (fun w h => List.mem_cons_of_mem _ (hY w h)) ty hty hown (ht _ hq) (ht _ hz) (ht _ hi) hK hP hD hS hA hci hfs hc hs hd (fun q H1 hP1 hD1 hS1 => ?_)
  rw [hw q] at hP1 hD1
  exact kk q H1 locs ls hP1 hD1 hS1 hl
theorem g_putF (X : gC p s m args meth c cc nL own D cA A) {C : String} {T : u_T} {N ci index x : Nat} {ty0 : Nat → FieldType} {fs : List Value} {v : Value} {ty : FieldType} (q0 k : Nat) (ws' : va_W) (hd : decode cc pc = .ok (.putfield index, 3)) (hY : ∀ w ∈ u_ws C T N, w ∈ mm_TB) (hty : ∀ k, k < N → parseFieldDescriptor (T k).2.2.1 = some (ty0 k)) (hnm : ∀ a, a < N → ∀ b, b < N → a ≠ b → (T a).2.1 ≠ (T b).2.1) (he : ws[q0]? = some (x, .inr (ci, fs))) (hci : vwCl[ci]? = some (C, T, N)) (hk : k < N) (hlk : Cond.fieldLink own index (T k).1 (T k).2.1 (T k).2.2.1 ∈ mm_TB) (hfin : (T k).2.2.2 = true) (hdecl : (T k).1 = own) (hpd : parseFieldDescriptor (T k).2.2.1 = some ty) (hn : narrow ty v = v) (hfit : fits ty v = true) (hl0 : k < fs.length) (hw : ws.set q0 (x, .inr (ci, fs.set k v)) = ws')
    (kk : gG p l e R s m args below meth c nL D A Q cells slots ws' (pc + 3) lv st) : gG p l e R s m args below meth c nL D A Q cells slots ws pc lv (v :: .ref x :: st) := by
  obtain ⟨hx, hb, hml, hown, ⟨w0, hts⟩, hin, hK, hA⟩ := X
  intro H locs ls hP hD hS hl
  refine va_putF (D := D) (cl := vwCl) hx hb hts (fun w h => List.mem_cons_of_mem _ (hY w h)) ty0 hty hnm hown hK hP hD hS q0 he hci k hk (hts _ (List.mem_cons_of_mem _ hlk)) (fun _ h9 => h9) hfin hin hdecl hpd hn hfit hl0 hd (fun H1 locs1 hP1 hD1 hS1 => ?_)
  rw [hw] at hP1 hD1
  exact kk H1 locs1 ls hP1 hD1 hS1 hl
theorem g_put (X : gC p s m args meth c cc nL own D cA A) {C : String} {T : u_T} {N ci index x : Nat} {ty0 : Nat → FieldType} {fs : List Value} {v : Value} {ty : FieldType} (q0 k : Nat) (ws' : va_W) (hd : decode cc pc = .ok (.putfield index, 3)) (hY : ∀ w ∈ u_ws C T N, w ∈ mm_TB) (hty : ∀ k, k < N → parseFieldDescriptor (T k).2.2.1 = some (ty0 k)) (hnm : ∀ a, a < N → ∀ b, b < N → a ≠ b → (T a).2.1 ≠ (T b).2.1) (he : ws[q0]? = some (x, .inr (ci, fs))) (hci : vwCl[ci]? = some (C, T, N)) (hk : k < N) (hlk : Cond.fieldLink own index (T k).1 (T k).2.1 (T k).2.2.1 ∈ mm_TB) (hfin : (T k).2.2.2 = false) (hpd : parseFieldDescriptor (T k).2.2.1 = some ty) (hn : narrow ty v = v) (hfit : fits ty v = true) (hl0 : k < fs.length) (hw : ws.set q0 (x, .inr (ci, fs.set k v)) = ws')
    (kk : gG p l e R s m args below meth c nL D A Q cells slots ws' (pc + 3) lv st) : gG p l e R s m args below meth c nL D A Q cells slots ws pc lv (v :: .ref x :: st) := by
  obtain ⟨hx, hb, hml, hown, ⟨w0, hts⟩, hin, hK, hA⟩ := X
  intro H locs ls hP hD hS hl
  refine va_put (D := D) (cl := vwCl) hx hb hts (fun w h => List.mem_cons_of_mem _ (hY w h)) ty0 hty hnm hown hK hP hD hS q0 he hci k hk (hts _ (List.mem_cons_of_mem _ hlk)) (fun _ h9 => h9) hfin hpd hn hfit hl0 hd (fun H1 locs1 hP1 hD1 hS1 => ?_)
  rw [hw] at hP1 hD1
  exact kk H1 locs1 ls hP1 hD1 hS1 hl
theorem g_get (X : gC p s m args meth c cc nL own D cA A) {C : String} {T : u_T} {N ci index x : Nat} {fs : List Value} {v : Value} (q0 k : Nat) (hd : decode cc pc = .ok (.getfield index, 3)) (hY : ∀ w ∈ u_ws C T N, w ∈ mm_TB) (he : ws[q0]? = some (x, .inr (ci, fs))) (hci : vwCl[ci]? = some (C, T, N)) (hk : k < N) (hlk : Cond.fieldLink own index (T k).1 (T k).2.1 (T k).2.2.1 ∈ mm_TB) (hv : fs[k]? = some v)
    (kk : gG p l e R s m args below meth c nL D A Q cells slots ws (pc + 3) lv (v :: st)) : gG p l e R s m args below meth c nL D A Q cells slots ws pc lv (.ref x :: st) := by
  obtain ⟨hx, hb, hml, hown, ⟨w0, hts⟩, hin, hK, hA⟩ := X
  intro H locs ls hP hD hS hl
  exact va_get (D := D) (cl := vwCl) hx hb hts (fun w h => List.mem_cons_of_mem _ (hY w h)) hown hK hP q0 he hci k hk (hts _ (List.mem_cons_of_mem _ hlk)) (fun _ h9 => h9) hv hd (kk H locs ls hP hD hS hl)
theorem g_iast (X : gC p s m args meth c cc nL own D cA A) {n x : Nat} {f : Nat → Int32} {i v : Int32} (q0 : Nat) (ws' : va_W) (hd : decode cc pc = .ok (.iastore, 1)) (he : ws[q0]? = some (x, .inl (cA 0, n, .inl f))) (hi : vp_in i n) (hw : ws.set q0 (x, .inl (cA 0, n, .inl (upd f i.toNatClampNeg v))) = ws')
    (kk : gG p l e R s m args below meth c nL D A Q cells slots ws' (pc + 1) lv st) : gG p l e R s m args below meth c nL D A Q cells slots ws pc lv (.int v :: .int i :: .ref x :: st) := by
  obtain ⟨hx, hb, hml, hown, ⟨w0, hts⟩, hin, hK, hA⟩ := X
  intro H locs ls hP hD hS hl
  refine va_iast (D := D) (cl := vwCl) hx hb hK hP hD hS q0 0 he rfl hi hd (fun H1 locs1 hP1 hD1 hS1 => ?_)
  rw [hw] at hP1 hD1
  exact kk H1 locs1 ls hP1 hD1 hS1 hl
end GG
