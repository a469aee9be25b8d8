section LAW
variable {p : Program} {l : Launch} {e : Env} {s : State} {m : MethodId} {below : List Frame} {meth : Method} {c : Code} {b L : Nat} {xs : Nat → Int32} {D : va_G} {cA : Nat → ClassId} {ax am tt sK sV : Nat → Nat} {qv : Value} {μ ν : Mm} {i pc : Nat} {st : List Value}
/-- what stays the same while the law runs: its entry, the two worlds' places -/
def lC (p : Program) (s : State) (m : MethodId) (meth : Method) (c : Code) (b L : Nat) (xs : Nat → Int32) (D : va_G) (cA : Nat → ClassId) (ax am tt sK sV : Nat → Nat) (qv : Value) : Prop :=
  lw_At p s m meth c b L xs ∧ L ≤ 3072 ∧ va_K D vwCl (mm_ty cA) s ∧ mm_SX (mm_A ax NX) tt sK sV qv s s.heap ∧ mm_J ax NX ∧ mm_J am NM ∧ (∀ k, k < NX → s.heap.size ≤ ax k) ∧ (∀ k, k < NM → s.heap.size ≤ am k) ∧ ∀ i j, i < NX → j < NM → ax i ≠ am j
/-- the law's walk, with the class's memory μ and the reference's ν, at the i-th int of the script -/
def lG (p : Program) (l : Launch) (e : Env) (s : State) (m : MethodId) (below : List Frame) (meth : Method) (c : Code) (b : Nat) (D : va_G) (cA : Nat → ClassId) (ax am : Nat → Nat) (i : Nat) (μ ν : Mm) (pc : Nat) (st : List Value) : Prop :=
  ∀ (H : Heap) (locs : List Loc) (ls : Array Slot), va_P D vwCl (mm_ws cA ax sX NX μ) H → va_P D vwCl (mm_ws cA am sM NM ν) H → va_S (fun q : Nat => s.heap.size ≤ q) s.heap H locs → lv_has ls 4 [(3, .int (nI i)), (2, .ref (am 0)), (1, .ref (ax 0)), (0, .ref b)] → W p l e room_1 s m #[Value.ref b] below meth c H locs 85 1209 (lw_Z below #[Value.ref b] s) (F0 m pc ls st)
theorem l_aX (X : lC p s m meth c b L xs D cA ax am tt sK sV qv) (hd : decode code pc = .ok (.aload_n 1, 1)) (kk : lG p l e s m below meth c b D cA ax am i μ ν (pc + 1) (.ref (ax 0) :: st)) : lG p l e s m below meth c b D cA ax am i μ ν pc st :=
  fun H locs ls h1 h2 h3 hl => lv_aload_n X.1.1 X.1.2.1 hd rfl (lv_at hl 2 rfl) (kk H locs ls h1 h2 h3 hl)
theorem l_aM (X : lC p s m meth c b L xs D cA ax am tt sK sV qv) (hd : decode code pc = .ok (.aload_n 2, 1)) (kk : lG p l e s m below meth c b D cA ax am i μ ν (pc + 1) (.ref (am 0) :: st)) : lG p l e s m below meth c b D cA ax am i μ ν pc st :=
  fun H locs ls h1 h2 h3 hl => lv_aload_n X.1.1 X.1.2.1 hd rfl (lv_at hl 1 rfl) (kk H locs ls h1 h2 h3 hl)
theorem l_bA (hbl : b < s.heap.size) : ¬ (fun q : Nat => s.heap.size ≤ q) b := Nat.not_le.mpr hbl
/-- script[i + k] -/
theorem l_arg (X : lC p s m meth c b L xs D cA ax am tt sK sV qv) (hi : i + 6 ≤ L) (k : Nat) {n : Int} (hk : k < 6) (hn : Int32.ofInt n = nI k) (d0 : decode code pc = .ok (.aload_n 0, 1)) (d1 : decode code (pc + 1) = .ok (.iload_n 3, 1)) (d2 : decode code (pc + 2) = .ok (.iconst n, 1)) (d3 : decode code (pc + 3) = .ok (.iadd, 1)) (d4 : decode code (pc + 4) = .ok (.iaload, 1)) (kk : lG p l e s m below meth c b D cA ax am i μ ν (pc + 5) (.int (xs (i + k)) :: st)) : lG p l e s m below meth c b D cA ax am i μ ν pc st := by
  obtain ⟨⟨hx, hb, hr, hml, hown, hts, hX, hbl, hlocks, hgv⟩, hL, -⟩ := X
  intro H locs ls h1 h2 h3 hl
  refine lv_aload_n hx hb d0 rfl (lv_at hl 3 rfl) ?_
  refine lv_iload_n hx hb d1 rfl (lv_at hl 0 rfl) ?_
  refine lv_iconst (v := nI k) hx hb d2 hn ?_
  refine lv_iadd hx hb d3 ?_
  rw [nI_add]
  refine va_sld hx hb hX hbl (l_bA hbl) h3 (vp_in_nI (show i + k < L by omega) (by omega)) d4 ?_
  rw [nI_clamp (show i + k < 2 ^ 31 by omega)]
  exact kk H locs ls h1 h2 h3 hl
theorem l_tb (hts : ∀ w ∈ lw_tbl, w.before #[Value.ref b] s = true) : ∀ w ∈ Cond.initialized RL :: mm_TB, w.before #[Value.ref b] s = true := fun w hw => (List.mem_cons.mp hw).elim (fun q => by rw [q]; exact hts _ (mm_tbl wn_L)) (fun q => hts _ (mm_tbl q))
theorem l_ws_kept {adr : Nat → Nat} {sh : Nat → Sh} {N : Nat} {H H1 : Heap} (h : va_P D vwCl (mm_ws cA adr sh N μ) H) (hq : ∀ k, k < N → H1[adr k]? = H[adr k]?) : va_P D vwCl (mm_ws cA adr sh N μ) H1 := h.kept (fun k q hk => by
  obtain ⟨h1, rfl⟩ := mm_ws_at hk
  exact hq k h1)
theorem l_ws_lt {adr : Nat → Nat} {sh : Nat → Sh} {N : Nat} {H : Heap} (h : va_P D vwCl (mm_ws cA adr sh N μ) H) {k : Nat} (hk : k < N) : adr k < H.size := (h k _ (mm_ws_get hk)).lt
/-- a call of the class -/
theorem l_callX (X : lC p s m meth c b L xs D cA ax am tt sK sV qv) {rest As : List Value} {y : MethodName} {bytes : ByteArray} {maxL n index : Nat} {ret : Option FieldType} {rm : Room} {o : Aa} {r : Int32} {μ' : Mm} (ho : o = some (r, μ')) (hM : mm_Mi l D cA ax sX NX (mm_SX (mm_A ax NX) tt sK sV qv) y bytes maxL ret rm (.ref (ax 0) :: As) μ o) (hcode : Cond.code y bytes maxL ret ∈ mm_TB) (hlk1 : Cond.methodLink RL index y ∈ mm_TB) (hins : Cond.instanceMethod y ∈ mm_TB) (hsel : Cond.selects RX6 y y ∈ mm_TB) (hyc : y.cls = RX6) (hd0 : y.cls ≠ "java/lang/invoke/MethodHandle" ∧ y.cls ≠ "java/lang/invoke/VarHandle" ∧ (parseMethodDescriptor y.desc).map (fun d => d.parameters.length) = some n) (hR : rm.frames + 1 ≤ room_1.frames ∧ 8 + (maxL + 11) + rm.locals ≤ room_1.locals) (hrm : rm.cells = 0 ∧ rm.slots = 0) (hn : As.length = n) (hst : st = As.reverse ++ .ref (ax 0) :: rest) (hrs2 : (rest.map fun v => v.category).sum ≤ 8) (hd : decode code pc = .ok (.invokevirtual index, 3)) (kk : lG p l e s m below meth c b D cA ax am i μ' ν (pc + 3) (.int r :: rest)) : lG p l e s m below meth c b D cA ax am i μ ν pc st := by
  obtain ⟨⟨hx, hb, hr, hml, hown, hts0, hX, hbl, hlocks, hgv⟩, hL, hK, hss, hJx, hJm, hax, ham, hne⟩ := X
  intro H locs ls hP hPm hS hl
  subst hst
  have hts := l_tb hts0
  have he : (mm_ws cA ax sX NX μ)[0]? = some (ax 0, .inr (6, mm_fs ax (μ 0) [some 1, some 14, none, some 27, some 29, some 30, some 44, some 48] 0)) := by rw [mm_ws_get (by decide)]; rfl
  have hS0 : va_S (mm_A ax NX) s.heap H [] := ⟨hS.1, fun q h _ => hS.2.1 q h (Nat.not_le.mpr h), fun _ h => absurd h List.not_mem_nil⟩
  have hA : ∀ q, mm_A ax NX q → s.heap.size ≤ q := fun q ⟨k, hk, e⟩ => by rw [e]; exact hax k hk
  refine va_calli (va_runV (C := RX6) (As := As) (rest := rest) ⟨hx, hb, hml, hown, hts⟩ (hM r μ' ho) ⟨callB_of n hts (mm_good hcode) rfl hrm.1 hrm.2 (by rw [hyc]; exact hts _ (List.mem_cons_of_mem _ wn_X6)) (hts _ (List.mem_cons_of_mem _ hlk1)) hd0 hR, hts _ (List.mem_cons_of_mem _ hins), hts _ (List.mem_cons_of_mem _ hsel)⟩ ⟨mm_blind mm_okX, va_recv hK hP (q := (RX6, TX6, 8)) rfl he, mm_preU hK mm_okX hss hS0 hP⟩ rfl hn hl.1 rfl (lv_room hrs2) hd ⟨Nat.le_of_ble_eq_true rfl, Nat.le_of_ble_eq_true rfl⟩) hS (fun q _ h => hA q h) (fun q h => hA q h) (fun r1 u t H1 locs1 ht _ hw hB _ hk1 hS1 => ?_)
  obtain ⟨rfl, rfl⟩ := hw
  have hP1 : va_P D vwCl (mm_ws cA ax sX NX u) H1 := by rw [← ht]; exact hB
  have hPm1 : va_P D vwCl (mm_ws cA am sM NM ν) H1 := l_ws_kept hPm (fun k hk => hk1 _ (l_ws_lt hPm hk) (fun ⟨j, hj, q⟩ => hne j k hj hk q.symm))
  exact kk H1 locs1 ls hP1 hPm1 hS1 hl
/-- a call of the reference -/
theorem l_callM (X : lC p s m meth c b L xs D cA ax am tt sK sV qv) {rest As : List Value} {y : MethodName} {bytes : ByteArray} {maxL n index : Nat} {ret : Option FieldType} {rm : Room} {o : Aa} {r : Int32} {ν' : Mm} (ho : o = some (r, ν')) (hM : mm_Mi l D cA am sM NM mm_SM y bytes maxL ret rm (.ref (am 0) :: As) ν o) (hcode : Cond.code y bytes maxL ret ∈ mm_TB) (hlk1 : Cond.methodLink RL index y ∈ mm_TB) (hins : Cond.instanceMethod y ∈ mm_TB) (hsel : Cond.selects RX7 y y ∈ mm_TB) (hyc : y.cls = RX7) (hd0 : y.cls ≠ "java/lang/invoke/MethodHandle" ∧ y.cls ≠ "java/lang/invoke/VarHandle" ∧ (parseMethodDescriptor y.desc).map (fun d => d.parameters.length) = some n) (hR : rm.frames + 1 ≤ room_1.frames ∧ 8 + (maxL + 11) + rm.locals ≤ room_1.locals) (hrm : rm.cells = 0 ∧ rm.slots = 0) (hn : As.length = n) (hst : st = As.reverse ++ .ref (am 0) :: rest) (hrs2 : (rest.map fun v => v.category).sum ≤ 8) (hd : decode code pc = .ok (.invokevirtual index, 3)) (kk : lG p l e s m below meth c b D cA ax am i μ ν' (pc + 3) (.int r :: rest)) : lG p l e s m below meth c b D cA ax am i μ ν pc st := by
  obtain ⟨⟨hx, hb, hr, hml, hown, hts0, hX, hbl, hlocks, hgv⟩, hL, hK, hss, hJx, hJm, hax, ham, hne⟩ := X
  intro H locs ls hPx hP hS hl
  subst hst
  have hts := l_tb hts0
  have he : ∃ fs, (mm_ws cA am sM NM ν)[0]? = some (am 0, .inr (7, fs)) := ⟨_, by rw [mm_ws_get (by decide)]; rfl⟩
  obtain ⟨fs, he⟩ := he
  have hS0 : va_S (mm_A am NM) s.heap H [] := ⟨hS.1, fun q h _ => hS.2.1 q h (Nat.not_le.mpr h), fun _ h => absurd h List.not_mem_nil⟩
  have hA : ∀ q, mm_A am NM q → s.heap.size ≤ q := fun q ⟨k, hk, e⟩ => by rw [e]; exact ham k hk
  refine va_calli (va_runV (C := RX7) (As := As) (rest := rest) ⟨hx, hb, hml, hown, hts⟩ (hM r ν' ho) ⟨callB_of n hts (mm_good hcode) rfl hrm.1 hrm.2 (by rw [hyc]; exact hts _ (List.mem_cons_of_mem _ wn_X7)) (hts _ (List.mem_cons_of_mem _ hlk1)) hd0 hR, hts _ (List.mem_cons_of_mem _ hins), hts _ (List.mem_cons_of_mem _ hsel)⟩ ⟨mm_blind mm_okM, va_recv hK hP (q := (RX7, TX7, 43)) rfl he, mm_preU hK mm_okM trivial hS0 hP⟩ rfl hn hl.1 rfl (lv_room hrs2) hd ⟨Nat.le_of_ble_eq_true rfl, Nat.le_of_ble_eq_true rfl⟩) hS (fun q _ h => hA q h) (fun q h => hA q h) (fun r1 u t H1 locs1 ht _ hw hB _ hk1 hS1 => ?_)
  obtain ⟨rfl, rfl⟩ := hw
  have hP1 : va_P D vwCl (mm_ws cA am sM NM u) H1 := by rw [← ht]; exact hB
  have hPx1 : va_P D vwCl (mm_ws cA ax sX NX μ) H1 := l_ws_kept hPx (fun k hk => hk1 _ (l_ws_lt hPx hk) (fun ⟨j, hj, q⟩ => hne k j hk hj q))
  exact kk H1 locs1 ls hPx1 hP1 hS1 hl
theorem l_eq (X : lC p s m meth c b L xs D cA ax am tt sK sV qv) {r : Int32} {off : Int} (hd : decode code pc = .ok (.if_icmp .eq off, 3)) (ht : (pc : Int) + off = ((1185 : Nat) : Int)) (kk : lG p l e s m below meth c b D cA ax am i μ ν 1185 []) : lG p l e s m below meth c b D cA ax am i μ ν pc [.int r, .int r] :=
  fun H locs ls h1 h2 h3 hl => lv_icmp_eq X.1.1 X.1.2.1 hd ht (fun _ => kk H locs ls h1 h2 h3 hl) (fun q => absurd rfl q)
/-- ((long) x << 32) | (y & 0xFFFFFFFFL), from behind the first of them -/
theorem l_i2l (X : lC p s m meth c b L xs D cA ax am tt sK sV qv) {x : Int32} (hd : decode code pc = .ok (.i2l, 1)) (kk : lG p l e s m below meth c b D cA ax am i μ ν (pc + 1) (.long x.toInt64 :: st)) : lG p l e s m below meth c b D cA ax am i μ ν pc (.int x :: st) :=
  fun H locs ls h1 h2 h3 hl => lv_i2l X.1.1 X.1.2.1 hd rfl (kk H locs ls h1 h2 h3 hl)
theorem l_sh (X : lC p s m meth c b L xs D cA ax am tt sK sV qv) {x : Int64} (hd : decode code pc = .ok (.bipush 32, 2)) (hd2 : decode code (pc + 2) = .ok (.lshl, 1)) (kk : lG p l e s m below meth c b D cA ax am i μ ν (pc + 3) (.long (x <<< ((32 : Int32).toInt64 &&& 63)) :: st)) : lG p l e s m below meth c b D cA ax am i μ ν pc (.long x :: st) :=
  fun H locs ls h1 h2 h3 hl => lv_bipush (v := 32) X.1.1 X.1.2.1 hd (by decide) (lv_lshl X.1.1 X.1.2.1 hd2 rfl (kk H locs ls h1 h2 h3 hl))
theorem l_mor (X : lC p s m meth c b L xs D cA ax am tt sK sV qv) {x y : Int64} (hd : decode code pc = .ok (.ldc2_w 45, 3)) (hd2 : decode code (pc + 3) = .ok (.land, 1)) (hd3 : decode code (pc + 4) = .ok (.lor, 1)) (kk : lG p l e s m below meth c b D cA ax am i μ ν (pc + 5) (.long (x ||| (y &&& 4294967295)) :: st)) : lG p l e s m below meth c b D cA ax am i μ ν pc (.long y :: .long x :: st) :=
  fun H locs ls h1 h2 h3 hl => lv_ldc2 X.1.1 X.1.2.1 X.1.2.2.2.2.1 (X.1.2.2.2.2.2.1 _ (mm_tbl wk_L_45)) hd (lv_land X.1.1 X.1.2.1 hd2 (lv_lor X.1.1 X.1.2.1 hd3 (kk H locs ls h1 h2 h3 hl)))
end LAW
