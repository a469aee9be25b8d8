section GRW
variable {p : Program} {l : Launch} {e : Env} {R : Room} {s : State} {m : MethodId} {args : Array Value} {below : List Frame} {meth : Method} {c : Code} {nL : Nat} {D : va_G} {cA : Nat → ClassId} {adr : Nat → Nat} {sh : Nat → Sh} {N : Nat} {SS : State → Heap → Prop} {Qf : Int32 → Mm → Array Value → State → Outcome → State → Prop} {μ : Mm} {lv : List (Nat × Value)} {st : List Value} {E : Aa} {cc : ByteArray} {own : String}
theorem gx_none {pc : Nat} : mm_G p l e R s m args below meth c nL D cA adr sh N Qf μ pc lv st none := fun _ _ _ _ _ _ _ _ h => by cases h
theorem gx_eq {pc : Nat} {E' : Aa} (h : E = E') (k : mm_G p l e R s m args below meth c nL D cA adr sh N Qf μ pc lv st E') : mm_G p l e R s m args below meth c nL D cA adr sh N Qf μ pc lv st E := h ▸ k
theorem gx_jn {pc : Nat} {β : Type} {k : β} {f : β → Aa} (P : β → Prop) (h1 : P k) (h2 : ∀ k, P k → mm_G p l e R s m args below meth c nL D cA adr sh N Qf μ pc lv st (f k)) : mm_G p l e R s m args below meth c nL D cA adr sh N Qf μ pc lv st (mm_lt k f) := h2 k h1
theorem gx_if {pc : Nat} {C : Prop} [Decidable C] {E1 E2 : Aa} (h1 : C → mm_G p l e R s m args below meth c nL D cA adr sh N Qf μ pc lv st E1) (h2 : ¬ C → mm_G p l e R s m args below meth c nL D cA adr sh N Qf μ pc lv st E2) : mm_G p l e R s m args below meth c nL D cA adr sh N Qf μ pc lv st (if C then E1 else E2) := by
  by_cases h : C
  · rw [if_pos h]; exact h1 h
  · rw [if_neg h]; exact h2 h
theorem gx_lv {pc : Nat} {lv' : List (Nat × Value)} (h : lv = lv') (k : mm_G p l e R s m args below meth c nL D cA adr sh N Qf μ pc lv' st E) : mm_G p l e R s m args below meth c nL D cA adr sh N Qf μ pc lv st E := h ▸ k
theorem mm_neI {x v : Int32} (n : Int) (hv : v.toInt = n) (h : ¬ x = v) : x.toInt ≠ n := fun q => h (Int32.toInt_inj.mp (q.trans hv.symm))
theorem gx_sub {pc : Nat} {lv' : List (Nat × Value)} (ks : List Nat) (hl : lv_pick lv ks = lv') (k : mm_G p l e R s m args below meth c nL D cA adr sh N Qf μ pc lv' st E) : mm_G p l e R s m args below meth c nL D cA adr sh N Qf μ pc lv st E := fun H locs ls hP hS h r μ' hE => k H locs ls hP hS (lv_sub h ks hl) r μ' hE

theorem gx_iload_n (X : mm_C p R s m args meth c cc nL own D cA adr N SS) (pc pc' j : Nat) {k : Fin 4} {i : Nat} {x : Int32} (hd : decode cc pc = .ok (.iload_n k, 1)) (hp : pc + 1 = pc') (hi : (k : Nat) = i) (hv : lv[j]? = some (i, .int x)) (kk : mm_G p l e R s m args below meth c nL D cA adr sh N Qf μ pc' lv (.int x :: st) E) : mm_G p l e R s m args below meth c nL D cA adr sh N Qf μ pc lv st E := by
  obtain ⟨⟨w0, hx, hb, hml, hown, hts⟩, hlk, hK, hJ, hok, hss, hrc, hrs⟩ := X
  intro H locs ls hP hS hl r μ' hE
  subst hp
  exact lv_iload_n hx hb hd hi (lv_at hl j hv) (kk H locs ls hP hS hl r μ' hE)
theorem gx_iload (X : mm_C p R s m args meth c cc nL own D cA adr N SS) (pc pc' j : Nat) {i : Nat} {x : Int32} (hd : decode cc pc = .ok (.iload i, 2)) (hp : pc + 2 = pc') (hv : lv[j]? = some (i, .int x)) (kk : mm_G p l e R s m args below meth c nL D cA adr sh N Qf μ pc' lv (.int x :: st) E) : mm_G p l e R s m args below meth c nL D cA adr sh N Qf μ pc lv st E := by
  obtain ⟨⟨w0, hx, hb, hml, hown, hts⟩, hlk, hK, hJ, hok, hss, hrc, hrs⟩ := X
  intro H locs ls hP hS hl r μ' hE
  subst hp
  exact lv_iload hx hb hd (lv_at hl j hv) (kk H locs ls hP hS hl r μ' hE)
theorem gx_lload_n (X : mm_C p R s m args meth c cc nL own D cA adr N SS) (pc pc' j : Nat) {k : Fin 4} {i : Nat} {x : Int64} (hd : decode cc pc = .ok (.lload_n k, 1)) (hp : pc + 1 = pc') (hi : (k : Nat) = i) (hv : lv[j]? = some (i, .long x)) (kk : mm_G p l e R s m args below meth c nL D cA adr sh N Qf μ pc' lv (.long x :: st) E) : mm_G p l e R s m args below meth c nL D cA adr sh N Qf μ pc lv st E := by
  obtain ⟨⟨w0, hx, hb, hml, hown, hts⟩, hlk, hK, hJ, hok, hss, hrc, hrs⟩ := X
  intro H locs ls hP hS hl r μ' hE
  subst hp
  exact lv_lload_n hx hb hd hi (lv_at hl j hv) (kk H locs ls hP hS hl r μ' hE)
theorem gx_lload (X : mm_C p R s m args meth c cc nL own D cA adr N SS) (pc pc' j : Nat) {i : Nat} {x : Int64} (hd : decode cc pc = .ok (.lload i, 2)) (hp : pc + 2 = pc') (hv : lv[j]? = some (i, .long x)) (kk : mm_G p l e R s m args below meth c nL D cA adr sh N Qf μ pc' lv (.long x :: st) E) : mm_G p l e R s m args below meth c nL D cA adr sh N Qf μ pc lv st E := by
  obtain ⟨⟨w0, hx, hb, hml, hown, hts⟩, hlk, hK, hJ, hok, hss, hrc, hrs⟩ := X
  intro H locs ls hP hS hl r μ' hE
  subst hp
  exact lv_lload hx hb hd (lv_at hl j hv) (kk H locs ls hP hS hl r μ' hE)
theorem gx_aload_n (X : mm_C p R s m args meth c cc nL own D cA adr N SS) (pc pc' j : Nat) {k : Fin 4} {i x : Nat} (hd : decode cc pc = .ok (.aload_n k, 1)) (hp : pc + 1 = pc') (hi : (k : Nat) = i) (hv : lv[j]? = some (i, .ref x)) (kk : mm_G p l e R s m args below meth c nL D cA adr sh N Qf μ pc' lv (.ref x :: st) E) : mm_G p l e R s m args below meth c nL D cA adr sh N Qf μ pc lv st E := by
  obtain ⟨⟨w0, hx, hb, hml, hown, hts⟩, hlk, hK, hJ, hok, hss, hrc, hrs⟩ := X
  intro H locs ls hP hS hl r μ' hE
  subst hp
  exact lv_aload_n hx hb hd hi (lv_at hl j hv) (kk H locs ls hP hS hl r μ' hE)
theorem gx_aload (X : mm_C p R s m args meth c cc nL own D cA adr N SS) (pc pc' j : Nat) {i x : Nat} (hd : decode cc pc = .ok (.aload i, 2)) (hp : pc + 2 = pc') (hv : lv[j]? = some (i, .ref x)) (kk : mm_G p l e R s m args below meth c nL D cA adr sh N Qf μ pc' lv (.ref x :: st) E) : mm_G p l e R s m args below meth c nL D cA adr sh N Qf μ pc lv st E := by
  obtain ⟨⟨w0, hx, hb, hml, hown, hts⟩, hlk, hK, hJ, hok, hss, hrc, hrs⟩ := X
  intro H locs ls hP hS hl r μ' hE
  subst hp
  exact lv_aload hx hb hd (lv_at hl j hv) (kk H locs ls hP hS hl r μ' hE)
theorem gx_iconst (X : mm_C p R s m args meth c cc nL own D cA adr N SS) (pc pc' : Nat) (v : Int32) {n : Int} (hd : decode cc pc = .ok (.iconst n, 1)) (hp : pc + 1 = pc') (hv : Int32.ofInt n = v) (kk : mm_G p l e R s m args below meth c nL D cA adr sh N Qf μ pc' lv (.int v :: st) E) : mm_G p l e R s m args below meth c nL D cA adr sh N Qf μ pc lv st E := by
  obtain ⟨⟨w0, hx, hb, hml, hown, hts⟩, hlk, hK, hJ, hok, hss, hrc, hrs⟩ := X
  intro H locs ls hP hS hl r μ' hE
  subst hp
  exact lv_iconst hx hb hd hv (kk H locs ls hP hS hl r μ' hE)
theorem gx_bipush (X : mm_C p R s m args meth c cc nL own D cA adr N SS) (pc pc' : Nat) (v : Int32) {n : Int} (hd : decode cc pc = .ok (.bipush n, 2)) (hp : pc + 2 = pc') (hv : (Int8.ofInt n).toInt32 = v) (kk : mm_G p l e R s m args below meth c nL D cA adr sh N Qf μ pc' lv (.int v :: st) E) : mm_G p l e R s m args below meth c nL D cA adr sh N Qf μ pc lv st E := by
  obtain ⟨⟨w0, hx, hb, hml, hown, hts⟩, hlk, hK, hJ, hok, hss, hrc, hrs⟩ := X
  intro H locs ls hP hS hl r μ' hE
  subst hp
  exact lv_bipush hx hb hd hv (kk H locs ls hP hS hl r μ' hE)
theorem gx_sipush (X : mm_C p R s m args meth c cc nL own D cA adr N SS) (pc pc' : Nat) (v : Int32) {n : Int} (hd : decode cc pc = .ok (.sipush n, 3)) (hp : pc + 3 = pc') (hv : (Int16.ofInt n).toInt32 = v) (kk : mm_G p l e R s m args below meth c nL D cA adr sh N Qf μ pc' lv (.int v :: st) E) : mm_G p l e R s m args below meth c nL D cA adr sh N Qf μ pc lv st E := by
  obtain ⟨⟨w0, hx, hb, hml, hown, hts⟩, hlk, hK, hJ, hok, hss, hrc, hrs⟩ := X
  intro H locs ls hP hS hl r μ' hE
  subst hp
  exact lv_sipush hx hb hd hv (kk H locs ls hP hS hl r μ' hE)
theorem gx_lconst (X : mm_C p R s m args meth c cc nL own D cA adr N SS) (pc pc' : Nat) (v : Int64) {n : Fin 2} (hd : decode cc pc = .ok (.lconst n, 1)) (hp : pc + 1 = pc') (hv : Int64.ofNat (n : Nat) = v) (kk : mm_G p l e R s m args below meth c nL D cA adr sh N Qf μ pc' lv (.long v :: st) E) : mm_G p l e R s m args below meth c nL D cA adr sh N Qf μ pc lv st E := by
  obtain ⟨⟨w0, hx, hb, hml, hown, hts⟩, hlk, hK, hJ, hok, hss, hrc, hrs⟩ := X
  intro H locs ls hP hS hl r μ' hE
  subst hp
  exact lv_lconst hx hb hd hv (kk H locs ls hP hS hl r μ' hE)
theorem gx_ldc (X : mm_C p R s m args meth c cc nL own D cA adr N SS) (pc pc' : Nat) {index : Nat} {v : Int32} (hw : Cond.constant own index v ∈ mm_TB) (hd : decode cc pc = .ok (.ldc index, 2)) (hp : pc + 2 = pc') (kk : mm_G p l e R s m args below meth c nL D cA adr sh N Qf μ pc' lv (.int v :: st) E) : mm_G p l e R s m args below meth c nL D cA adr sh N Qf μ pc lv st E := by
  obtain ⟨⟨w0, hx, hb, hml, hown, hts⟩, hlk, hK, hJ, hok, hss, hrc, hrs⟩ := X
  intro H locs ls hP hS hl r μ' hE
  subst hp
  exact lv_ldc hx hb hown (hts _ (List.mem_cons_of_mem _ hw)) hd (kk H locs ls hP hS hl r μ' hE)
theorem gx_ldc_w (X : mm_C p R s m args meth c cc nL own D cA adr N SS) (pc pc' : Nat) {index : Nat} {v : Int32} (hw : Cond.constant own index v ∈ mm_TB) (hd : decode cc pc = .ok (.ldc_w index, 3)) (hp : pc + 3 = pc') (kk : mm_G p l e R s m args below meth c nL D cA adr sh N Qf μ pc' lv (.int v :: st) E) : mm_G p l e R s m args below meth c nL D cA adr sh N Qf μ pc lv st E := by
  obtain ⟨⟨w0, hx, hb, hml, hown, hts⟩, hlk, hK, hJ, hok, hss, hrc, hrs⟩ := X
  intro H locs ls hP hS hl r μ' hE
  subst hp
  exact lv_ldcw hx hb hown (hts _ (List.mem_cons_of_mem _ hw)) hd (kk H locs ls hP hS hl r μ' hE)
theorem gx_ldc2_w (X : mm_C p R s m args meth c cc nL own D cA adr N SS) (pc pc' : Nat) {index : Nat} {v : Int64} (hw : Cond.constantLong own index v ∈ mm_TB) (hd : decode cc pc = .ok (.ldc2_w index, 3)) (hp : pc + 3 = pc') (kk : mm_G p l e R s m args below meth c nL D cA adr sh N Qf μ pc' lv (.long v :: st) E) : mm_G p l e R s m args below meth c nL D cA adr sh N Qf μ pc lv st E := by
  obtain ⟨⟨w0, hx, hb, hml, hown, hts⟩, hlk, hK, hJ, hok, hss, hrc, hrs⟩ := X
  intro H locs ls hP hS hl r μ' hE
  subst hp
  exact lv_ldc2 hx hb hown (hts _ (List.mem_cons_of_mem _ hw)) hd (kk H locs ls hP hS hl r μ' hE)
theorem gx_istore_n (X : mm_C p R s m args meth c cc nL own D cA adr N SS) (pc pc' : Nat) {i : Nat} {k : Fin 4} {x : Int32} {f : Int32 → Aa} (lv' : Int32 → List (Nat × Value)) (hd : decode cc pc = .ok (.istore_n k, 1)) (hp : pc + 1 = pc') (hi : (k : Nat) = i) (hn : i < nL) (hl' : ∀ x, (i, Value.int x) :: lv.filter (fun q => !(q.1 == i) && !(q.1 + 1 == i && q.2.category == 2)) = lv' x) (kk : ∀ x, mm_G p l e R s m args below meth c nL D cA adr sh N Qf μ pc' (lv' x) st (f x)) : mm_G p l e R s m args below meth c nL D cA adr sh N Qf μ pc lv (.int x :: st) (mm_lt x f) := by
  obtain ⟨⟨w0, hx, hb, hml, hown, hts⟩, hlk, hK, hJ, hok, hss, hrc, hrs⟩ := X
  intro H locs ls hP hS hl r μ' hE
  subst hp
  exact lv_istore_n hx hb hd hi hl hn (hl' x) (fun ls2 h2 => kk x H locs ls2 hP hS h2 r μ' hE)
theorem gx_astore_n (X : mm_C p R s m args meth c cc nL own D cA adr N SS) (pc pc' : Nat) {i : Nat} {k : Fin 4} {x : Nat} (lv' : List (Nat × Value)) (hd : decode cc pc = .ok (.astore_n k, 1)) (hp : pc + 1 = pc') (hi : (k : Nat) = i) (hn : i < nL) (hl' : (i, Value.ref x) :: lv.filter (fun q => !(q.1 == i) && !(q.1 + 1 == i && q.2.category == 2)) = lv') (kk : mm_G p l e R s m args below meth c nL D cA adr sh N Qf μ pc' lv' st E) : mm_G p l e R s m args below meth c nL D cA adr sh N Qf μ pc lv (.ref x :: st) E := by
  obtain ⟨⟨w0, hx, hb, hml, hown, hts⟩, hlk, hK, hJ, hok, hss, hrc, hrs⟩ := X
  intro H locs ls hP hS hl r μ' hE
  subst hp
  exact lv_astore_n hx hb hd hi hl hn hl' (fun ls2 h2 => kk H locs ls2 hP hS h2 r μ' hE)
theorem gx_istore (X : mm_C p R s m args meth c cc nL own D cA adr N SS) (pc pc' : Nat) {i : Nat} {x : Int32} {f : Int32 → Aa} (lv' : Int32 → List (Nat × Value)) (hd : decode cc pc = .ok (.istore i, 2)) (hp : pc + 2 = pc') (hn : i < nL) (hl' : ∀ x, (i, Value.int x) :: lv.filter (fun q => !(q.1 == i) && !(q.1 + 1 == i && q.2.category == 2)) = lv' x) (kk : ∀ x, mm_G p l e R s m args below meth c nL D cA adr sh N Qf μ pc' (lv' x) st (f x)) : mm_G p l e R s m args below meth c nL D cA adr sh N Qf μ pc lv (.int x :: st) (mm_lt x f) := by
  obtain ⟨⟨w0, hx, hb, hml, hown, hts⟩, hlk, hK, hJ, hok, hss, hrc, hrs⟩ := X
  intro H locs ls hP hS hl r μ' hE
  subst hp
  exact lv_istore hx hb hd hl hn (hl' x) (fun ls2 h2 => kk x H locs ls2 hP hS h2 r μ' hE)
theorem gx_astore (X : mm_C p R s m args meth c cc nL own D cA adr N SS) (pc pc' : Nat) {i : Nat} {x : Nat} (lv' : List (Nat × Value)) (hd : decode cc pc = .ok (.astore i, 2)) (hp : pc + 2 = pc') (hn : i < nL) (hl' : (i, Value.ref x) :: lv.filter (fun q => !(q.1 == i) && !(q.1 + 1 == i && q.2.category == 2)) = lv') (kk : mm_G p l e R s m args below meth c nL D cA adr sh N Qf μ pc' lv' st E) : mm_G p l e R s m args below meth c nL D cA adr sh N Qf μ pc lv (.ref x :: st) E := by
  obtain ⟨⟨w0, hx, hb, hml, hown, hts⟩, hlk, hK, hJ, hok, hss, hrc, hrs⟩ := X
  intro H locs ls hP hS hl r μ' hE
  subst hp
  exact lv_astore hx hb hd hl hn hl' (fun ls2 h2 => kk H locs ls2 hP hS h2 r μ' hE)
theorem gx_iinc (X : mm_C p R s m args meth c cc nL own D cA adr N SS) (pc pc' j : Nat) {i : Nat} {n : Int} {x : Int32} (v : Int32) {f : Int32 → Aa} (lv' : Int32 → List (Nat × Value)) (hd : decode cc pc = .ok (.iinc i n, 3)) (hp : pc + 3 = pc') (hv : lv[j]? = some (i, .int x)) (hm : Int32.ofInt n = v) (hn : i < nL) (hl' : ∀ x, (i, Value.int x) :: lv.filter (fun q => !(q.1 == i) && !(q.1 + 1 == i && q.2.category == 2)) = lv' x) (kk : ∀ x, mm_G p l e R s m args below meth c nL D cA adr sh N Qf μ pc' (lv' x) st (f x)) : mm_G p l e R s m args below meth c nL D cA adr sh N Qf μ pc lv st (mm_lt (x + v) f) := by
  obtain ⟨⟨w0, hx, hb, hml, hown, hts⟩, hlk, hK, hJ, hok, hss, hrc, hrs⟩ := X
  intro H locs ls hP hS hl r μ' hE
  subst hp
  subst hm
  exact lv_iinc hx hb hd hl hv rfl hn (hl' _) (fun ls2 h2 => kk _ H locs ls2 hP hS h2 r μ' hE)
theorem gx_iadd (X : mm_C p R s m args meth c cc nL own D cA adr N SS) (pc pc' : Nat) {x y : Int32} (hd : decode cc pc = .ok (.iadd, 1)) (hp : pc + 1 = pc') (kk : mm_G p l e R s m args below meth c nL D cA adr sh N Qf μ pc' lv (.int (x + y) :: st) E) : mm_G p l e R s m args below meth c nL D cA adr sh N Qf μ pc lv (.int y :: .int x :: st) E := by
  obtain ⟨⟨w0, hx, hb, hml, hown, hts⟩, hlk, hK, hJ, hok, hss, hrc, hrs⟩ := X
  intro H locs ls hP hS hl r μ' hE
  subst hp
  exact lv_iadd hx hb hd (kk H locs ls hP hS hl r μ' hE)
theorem gx_isub (X : mm_C p R s m args meth c cc nL own D cA adr N SS) (pc pc' : Nat) {x y : Int32} (hd : decode cc pc = .ok (.isub, 1)) (hp : pc + 1 = pc') (kk : mm_G p l e R s m args below meth c nL D cA adr sh N Qf μ pc' lv (.int (x - y) :: st) E) : mm_G p l e R s m args below meth c nL D cA adr sh N Qf μ pc lv (.int y :: .int x :: st) E := by
  obtain ⟨⟨w0, hx, hb, hml, hown, hts⟩, hlk, hK, hJ, hok, hss, hrc, hrs⟩ := X
  intro H locs ls hP hS hl r μ' hE
  subst hp
  exact lv_isub hx hb hd (kk H locs ls hP hS hl r μ' hE)
theorem gx_imul (X : mm_C p R s m args meth c cc nL own D cA adr N SS) (pc pc' : Nat) {x y : Int32} (hd : decode cc pc = .ok (.imul, 1)) (hp : pc + 1 = pc') (kk : mm_G p l e R s m args below meth c nL D cA adr sh N Qf μ pc' lv (.int (x * y) :: st) E) : mm_G p l e R s m args below meth c nL D cA adr sh N Qf μ pc lv (.int y :: .int x :: st) E := by
  obtain ⟨⟨w0, hx, hb, hml, hown, hts⟩, hlk, hK, hJ, hok, hss, hrc, hrs⟩ := X
  intro H locs ls hP hS hl r μ' hE
  subst hp
  exact lv_imul hx hb hd (kk H locs ls hP hS hl r μ' hE)
theorem gx_iand (X : mm_C p R s m args meth c cc nL own D cA adr N SS) (pc pc' : Nat) {x y : Int32} (hd : decode cc pc = .ok (.iand, 1)) (hp : pc + 1 = pc') (kk : mm_G p l e R s m args below meth c nL D cA adr sh N Qf μ pc' lv (.int (x &&& y) :: st) E) : mm_G p l e R s m args below meth c nL D cA adr sh N Qf μ pc lv (.int y :: .int x :: st) E := by
  obtain ⟨⟨w0, hx, hb, hml, hown, hts⟩, hlk, hK, hJ, hok, hss, hrc, hrs⟩ := X
  intro H locs ls hP hS hl r μ' hE
  subst hp
  exact lv_iand hx hb hd (kk H locs ls hP hS hl r μ' hE)
theorem gx_ior (X : mm_C p R s m args meth c cc nL own D cA adr N SS) (pc pc' : Nat) {x y : Int32} (hd : decode cc pc = .ok (.ior, 1)) (hp : pc + 1 = pc') (kk : mm_G p l e R s m args below meth c nL D cA adr sh N Qf μ pc' lv (.int (x ||| y) :: st) E) : mm_G p l e R s m args below meth c nL D cA adr sh N Qf μ pc lv (.int y :: .int x :: st) E := by
  obtain ⟨⟨w0, hx, hb, hml, hown, hts⟩, hlk, hK, hJ, hok, hss, hrc, hrs⟩ := X
  intro H locs ls hP hS hl r μ' hE
  subst hp
  exact lv_ior hx hb hd (kk H locs ls hP hS hl r μ' hE)
theorem gx_ixor (X : mm_C p R s m args meth c cc nL own D cA adr N SS) (pc pc' : Nat) {x y : Int32} (hd : decode cc pc = .ok (.ixor, 1)) (hp : pc + 1 = pc') (kk : mm_G p l e R s m args below meth c nL D cA adr sh N Qf μ pc' lv (.int (x ^^^ y) :: st) E) : mm_G p l e R s m args below meth c nL D cA adr sh N Qf μ pc lv (.int y :: .int x :: st) E := by
  obtain ⟨⟨w0, hx, hb, hml, hown, hts⟩, hlk, hK, hJ, hok, hss, hrc, hrs⟩ := X
  intro H locs ls hP hS hl r μ' hE
  subst hp
  exact lv_ixor hx hb hd (kk H locs ls hP hS hl r μ' hE)
theorem gx_ishl (X : mm_C p R s m args meth c cc nL own D cA adr N SS) (pc pc' : Nat) {x y : Int32} (hd : decode cc pc = .ok (.ishl, 1)) (hp : pc + 1 = pc') (kk : mm_G p l e R s m args below meth c nL D cA adr sh N Qf μ pc' lv (.int (x <<< (y &&& 31)) :: st) E) : mm_G p l e R s m args below meth c nL D cA adr sh N Qf μ pc lv (.int y :: .int x :: st) E := by
  obtain ⟨⟨w0, hx, hb, hml, hown, hts⟩, hlk, hK, hJ, hok, hss, hrc, hrs⟩ := X
  intro H locs ls hP hS hl r μ' hE
  subst hp
  exact lv_ishl hx hb hd (kk H locs ls hP hS hl r μ' hE)
theorem gx_ishr (X : mm_C p R s m args meth c cc nL own D cA adr N SS) (pc pc' : Nat) {x y : Int32} (hd : decode cc pc = .ok (.ishr, 1)) (hp : pc + 1 = pc') (kk : mm_G p l e R s m args below meth c nL D cA adr sh N Qf μ pc' lv (.int (x >>> (y &&& 31)) :: st) E) : mm_G p l e R s m args below meth c nL D cA adr sh N Qf μ pc lv (.int y :: .int x :: st) E := by
  obtain ⟨⟨w0, hx, hb, hml, hown, hts⟩, hlk, hK, hJ, hok, hss, hrc, hrs⟩ := X
  intro H locs ls hP hS hl r μ' hE
  subst hp
  exact lv_ishr hx hb hd (kk H locs ls hP hS hl r μ' hE)
theorem gx_iushr (X : mm_C p R s m args meth c cc nL own D cA adr N SS) (pc pc' : Nat) {x y : Int32} (hd : decode cc pc = .ok (.iushr, 1)) (hp : pc + 1 = pc') (kk : mm_G p l e R s m args below meth c nL D cA adr sh N Qf μ pc' lv (.int ((x.toUInt32 >>> (y.toUInt32 &&& Int32.toUInt32 31)).toInt32) :: st) E) : mm_G p l e R s m args below meth c nL D cA adr sh N Qf μ pc lv (.int y :: .int x :: st) E := by
  obtain ⟨⟨w0, hx, hb, hml, hown, hts⟩, hlk, hK, hJ, hok, hss, hrc, hrs⟩ := X
  intro H locs ls hP hS hl r μ' hE
  subst hp
  exact lv_iushr hx hb hd rfl (kk H locs ls hP hS hl r μ' hE)
theorem gx_land (X : mm_C p R s m args meth c cc nL own D cA adr N SS) (pc pc' : Nat) {x y : Int64} (hd : decode cc pc = .ok (.land, 1)) (hp : pc + 1 = pc') (kk : mm_G p l e R s m args below meth c nL D cA adr sh N Qf μ pc' lv (.long (x &&& y) :: st) E) : mm_G p l e R s m args below meth c nL D cA adr sh N Qf μ pc lv (.long y :: .long x :: st) E := by
  obtain ⟨⟨w0, hx, hb, hml, hown, hts⟩, hlk, hK, hJ, hok, hss, hrc, hrs⟩ := X
  intro H locs ls hP hS hl r μ' hE
  subst hp
  exact lv_land hx hb hd (kk H locs ls hP hS hl r μ' hE)
theorem gx_lor (X : mm_C p R s m args meth c cc nL own D cA adr N SS) (pc pc' : Nat) {x y : Int64} (hd : decode cc pc = .ok (.lor, 1)) (hp : pc + 1 = pc') (kk : mm_G p l e R s m args below meth c nL D cA adr sh N Qf μ pc' lv (.long (x ||| y) :: st) E) : mm_G p l e R s m args below meth c nL D cA adr sh N Qf μ pc lv (.long y :: .long x :: st) E := by
  obtain ⟨⟨w0, hx, hb, hml, hown, hts⟩, hlk, hK, hJ, hok, hss, hrc, hrs⟩ := X
  intro H locs ls hP hS hl r μ' hE
  subst hp
  exact lv_lor hx hb hd (kk H locs ls hP hS hl r μ' hE)
theorem gx_lshl (X : mm_C p R s m args meth c cc nL own D cA adr N SS) (pc pc' : Nat) {x : Int64} {y : Int32} (hd : decode cc pc = .ok (.lshl, 1)) (hp : pc + 1 = pc') (kk : mm_G p l e R s m args below meth c nL D cA adr sh N Qf μ pc' lv (.long (x <<< (y.toInt64 &&& 63)) :: st) E) : mm_G p l e R s m args below meth c nL D cA adr sh N Qf μ pc lv (.int y :: .long x :: st) E := by
  obtain ⟨⟨w0, hx, hb, hml, hown, hts⟩, hlk, hK, hJ, hok, hss, hrc, hrs⟩ := X
  intro H locs ls hP hS hl r μ' hE
  subst hp
  exact lv_lshl hx hb hd rfl (kk H locs ls hP hS hl r μ' hE)
theorem gx_lshr (X : mm_C p R s m args meth c cc nL own D cA adr N SS) (pc pc' : Nat) {x : Int64} {y : Int32} (hd : decode cc pc = .ok (.lshr, 1)) (hp : pc + 1 = pc') (kk : mm_G p l e R s m args below meth c nL D cA adr sh N Qf μ pc' lv (.long (x >>> (y.toInt64 &&& 63)) :: st) E) : mm_G p l e R s m args below meth c nL D cA adr sh N Qf μ pc lv (.int y :: .long x :: st) E := by
  obtain ⟨⟨w0, hx, hb, hml, hown, hts⟩, hlk, hK, hJ, hok, hss, hrc, hrs⟩ := X
  intro H locs ls hP hS hl r μ' hE
  subst hp
  exact lv_lshr hx hb hd rfl (kk H locs ls hP hS hl r μ' hE)
theorem gx_lcmp (X : mm_C p R s m args meth c cc nL own D cA adr N SS) (pc pc' : Nat) {x y : Int64} (hd : decode cc pc = .ok (.lcmp, 1)) (hp : pc + 1 = pc') (kk : mm_G p l e R s m args below meth c nL D cA adr sh N Qf μ pc' lv (.int (lg_cmp x y) :: st) E) : mm_G p l e R s m args below meth c nL D cA adr sh N Qf μ pc lv (.long y :: .long x :: st) E := by
  obtain ⟨⟨w0, hx, hb, hml, hown, hts⟩, hlk, hK, hJ, hok, hss, hrc, hrs⟩ := X
  intro H locs ls hP hS hl r μ' hE
  subst hp
  exact W.lcmp hx hb hd (kk H locs ls hP hS hl r μ' hE)
theorem gx_i2l (X : mm_C p R s m args meth c cc nL own D cA adr N SS) (pc pc' : Nat) {x : Int32} (hd : decode cc pc = .ok (.i2l, 1)) (hp : pc + 1 = pc') (kk : mm_G p l e R s m args below meth c nL D cA adr sh N Qf μ pc' lv (.long (x.toInt64) :: st) E) : mm_G p l e R s m args below meth c nL D cA adr sh N Qf μ pc lv (.int x :: st) E := by
  obtain ⟨⟨w0, hx, hb, hml, hown, hts⟩, hlk, hK, hJ, hok, hss, hrc, hrs⟩ := X
  intro H locs ls hP hS hl r μ' hE
  subst hp
  exact lv_i2l hx hb hd rfl (kk H locs ls hP hS hl r μ' hE)
theorem gx_l2i (X : mm_C p R s m args meth c cc nL own D cA adr N SS) (pc pc' : Nat) {x : Int64} (hd : decode cc pc = .ok (.l2i, 1)) (hp : pc + 1 = pc') (kk : mm_G p l e R s m args below meth c nL D cA adr sh N Qf μ pc' lv (.int (x.toInt32) :: st) E) : mm_G p l e R s m args below meth c nL D cA adr sh N Qf μ pc lv (.long x :: st) E := by
  obtain ⟨⟨w0, hx, hb, hml, hown, hts⟩, hlk, hK, hJ, hok, hss, hrc, hrs⟩ := X
  intro H locs ls hP hS hl r μ' hE
  subst hp
  exact lv_l2i hx hb hd rfl (kk H locs ls hP hS hl r μ' hE)
theorem gx_i2b (X : mm_C p R s m args meth c cc nL own D cA adr N SS) (pc pc' : Nat) {x : Int32} (hd : decode cc pc = .ok (.i2b, 1)) (hp : pc + 1 = pc') (kk : mm_G p l e R s m args below meth c nL D cA adr sh N Qf μ pc' lv (.int (x.toInt8.toInt32) :: st) E) : mm_G p l e R s m args below meth c nL D cA adr sh N Qf μ pc lv (.int x :: st) E := by
  obtain ⟨⟨w0, hx, hb, hml, hown, hts⟩, hlk, hK, hJ, hok, hss, hrc, hrs⟩ := X
  intro H locs ls hP hS hl r μ' hE
  subst hp
  exact lv_i2b hx hb hd rfl (kk H locs ls hP hS hl r μ' hE)
theorem gx_i2s (X : mm_C p R s m args meth c cc nL own D cA adr N SS) (pc pc' : Nat) {x : Int32} (hd : decode cc pc = .ok (.i2s, 1)) (hp : pc + 1 = pc') (kk : mm_G p l e R s m args below meth c nL D cA adr sh N Qf μ pc' lv (.int (x.toInt16.toInt32) :: st) E) : mm_G p l e R s m args below meth c nL D cA adr sh N Qf μ pc lv (.int x :: st) E := by
  obtain ⟨⟨w0, hx, hb, hml, hown, hts⟩, hlk, hK, hJ, hok, hss, hrc, hrs⟩ := X
  intro H locs ls hP hS hl r μ' hE
  subst hp
  exact lv_i2s hx hb hd rfl (kk H locs ls hP hS hl r μ' hE)
theorem gx_i2c (X : mm_C p R s m args meth c cc nL own D cA adr N SS) (pc pc' : Nat) {x : Int32} (hd : decode cc pc = .ok (.i2c, 1)) (hp : pc + 1 = pc') (kk : mm_G p l e R s m args below meth c nL D cA adr sh N Qf μ pc' lv (.int ((x.toUInt32 % 65536).toInt32) :: st) E) : mm_G p l e R s m args below meth c nL D cA adr sh N Qf μ pc lv (.int x :: st) E := by
  obtain ⟨⟨w0, hx, hb, hml, hown, hts⟩, hlk, hK, hJ, hok, hss, hrc, hrs⟩ := X
  intro H locs ls hP hS hl r μ' hE
  subst hp
  exact lv_i2c hx hb hd rfl (kk H locs ls hP hS hl r μ' hE)
def mm_nz (y : Int32) (E : Aa) : Aa := if y = 0 then none else E
theorem mm_nz_some {y : Int32} {E : Aa} {q : Int32 × Mm} (h : mm_nz y E = some q) : ¬ y = 0 ∧ E = some q := by
  unfold mm_nz at h
  by_cases e : y = 0
  · rw [if_pos e] at h; cases h
  · rw [if_neg e] at h; exact ⟨e, h⟩
def mm_ck (i : Int32) (n : Nat) (E : Aa) : Aa := if i < 0 ∨ n ≤ i.toNatClampNeg then none else E
theorem mm_ck_some {i : Int32} {n : Nat} {E : Aa} {q : Int32 × Mm} (h : mm_ck i n E = some q) : vp_in i n ∧ E = some q := by
  unfold mm_ck at h
  by_cases e : i < 0 ∨ n ≤ i.toNatClampNeg
  · rw [if_pos e] at h; cases h
  · rw [if_neg e] at h; exact ⟨e, h⟩
theorem mm_in {i : Int32} {n : Nat} (h : vp_in i n) : i.toNatClampNeg < n := Nat.not_le.mp fun q => h (Or.inr q)
def mm_bo (v : Int32) (E : Aa) : Aa := if v = 0 ∨ v = 1 then E else none
theorem mm_bo_some {v : Int32} {E : Aa} {q : Int32 × Mm} (h : mm_bo v E = some q) : (v = 0 ∨ v = 1) ∧ E = some q := by
  unfold mm_bo at h
  by_cases e : v = 0 ∨ v = 1
  · rw [if_pos e] at h; exact ⟨e, h⟩
  · rw [if_neg e] at h; cases h
theorem mm_narb {v : Int32} (h : v = 0 ∨ v = 1) : narrow .boolean (.int v) = .int v := by
  rcases h with h | h <;> subst h <;> rfl
theorem mm_fitb {v : Int32} (h : v = 0 ∨ v = 1) : fits .boolean (.int v) = true := by
  rcases h with h | h <;> subst h <;> rfl
theorem mm_lk_ind {β : Type} {z : β} {F : β → β} (P : β → Prop) (hz : P z) (hF : ∀ r, P r → P (F r)) : ∀ n, P (mm_lk z F n)
  | 0 => hz
  | n + 1 => hF _ (mm_lk_ind P hz hF n)
theorem gx_idiv (X : mm_C p R s m args meth c cc nL own D cA adr N SS) (pc pc' : Nat) {x y : Int32} (hd : decode cc pc = .ok (.idiv, 1)) (hp : pc + 1 = pc') (kk : mm_G p l e R s m args below meth c nL D cA adr sh N Qf μ pc' lv (.int (x / y) :: st) E) : mm_G p l e R s m args below meth c nL D cA adr sh N Qf μ pc lv (.int y :: .int x :: st) (mm_nz y E) := by
  obtain ⟨⟨w0, hx, hb, hml, hown, hts⟩, hlk, hK, hJ, hok, hss, hrc, hrs⟩ := X
  intro H locs ls hP hS hl r μ' hE
  subst hp
  obtain ⟨hne, hE⟩ := mm_nz_some hE
  exact lv_idiv hx hb hd hne (kk H locs ls hP hS hl r μ' hE)
theorem gx_irem (X : mm_C p R s m args meth c cc nL own D cA adr N SS) (pc pc' : Nat) {x y : Int32} (hd : decode cc pc = .ok (.irem, 1)) (hp : pc + 1 = pc') (kk : mm_G p l e R s m args below meth c nL D cA adr sh N Qf μ pc' lv (.int (x - x / y * y) :: st) E) : mm_G p l e R s m args below meth c nL D cA adr sh N Qf μ pc lv (.int y :: .int x :: st) (mm_nz y E) := by
  obtain ⟨⟨w0, hx, hb, hml, hown, hts⟩, hlk, hK, hJ, hok, hss, hrc, hrs⟩ := X
  intro H locs ls hP hS hl r μ' hE
  subst hp
  obtain ⟨hne, hE⟩ := mm_nz_some hE
  exact lv_irem hx hb hd hne (kk H locs ls hP hS hl r μ' hE)
theorem gx_dup (X : mm_C p R s m args meth c cc nL own D cA adr N SS) (pc pc' : Nat) {v : Value} (hd : decode cc pc = .ok (.dup, 1)) (hp : pc + 1 = pc') (hc : v.category = 1) (kk : mm_G p l e R s m args below meth c nL D cA adr sh N Qf μ pc' lv (v :: v :: st) E) : mm_G p l e R s m args below meth c nL D cA adr sh N Qf μ pc lv (v :: st) E := by
  obtain ⟨⟨w0, hx, hb, hml, hown, hts⟩, hlk, hK, hJ, hok, hss, hrc, hrs⟩ := X
  intro H locs ls hP hS hl r μ' hE
  subst hp
  exact lv_dup hx hb hd hc (kk H locs ls hP hS hl r μ' hE)
theorem gx_pop (X : mm_C p R s m args meth c cc nL own D cA adr N SS) (pc pc' : Nat) {v : Value} (hd : decode cc pc = .ok (.pop, 1)) (hp : pc + 1 = pc') (hc : v.category = 1) (kk : mm_G p l e R s m args below meth c nL D cA adr sh N Qf μ pc' lv st E) : mm_G p l e R s m args below meth c nL D cA adr sh N Qf μ pc lv (v :: st) E := by
  obtain ⟨⟨w0, hx, hb, hml, hown, hts⟩, hlk, hK, hJ, hok, hss, hrc, hrs⟩ := X
  intro H locs ls hP hS hl r μ' hE
  subst hp
  exact lv_pop hx hb hd hc (kk H locs ls hP hS hl r μ' hE)
theorem gx_dup2 (X : mm_C p R s m args meth c cc nL own D cA adr N SS) (pc pc' : Nat) {v w : Value} (hd : decode cc pc = .ok (.dup2, 1)) (hp : pc + 1 = pc') (hc : v.category = 1) (hc2 : w.category = 1) (kk : mm_G p l e R s m args below meth c nL D cA adr sh N Qf μ pc' lv (v :: w :: v :: w :: st) E) : mm_G p l e R s m args below meth c nL D cA adr sh N Qf μ pc lv (v :: w :: st) E := by
  obtain ⟨⟨w0, hx, hb, hml, hown, hts⟩, hlk, hK, hJ, hok, hss, hrc, hrs⟩ := X
  intro H locs ls hP hS hl r μ' hE
  subst hp
  exact lv_dup2_11 hx hb hd hc hc2 (kk H locs ls hP hS hl r μ' hE)
theorem gx_icmp_eq (X : mm_C p R s m args meth c cc nL own D cA adr N SS) (pc tgt pc' : Nat) {x y : Int32} {off : Int} {E1 E2 : Aa} (hd : decode cc pc = .ok (.if_icmp .eq off, 3)) (ht : (pc : Int) + off = (tgt : Int)) (hp : pc + 3 = pc') (kt : mm_G p l e R s m args below meth c nL D cA adr sh N Qf μ tgt lv st E1) (kf : mm_G p l e R s m args below meth c nL D cA adr sh N Qf μ pc' lv st E2) : mm_G p l e R s m args below meth c nL D cA adr sh N Qf μ pc lv (.int y :: .int x :: st) (if x = y then E1 else E2) := by
  obtain ⟨⟨w0, hx, hb, hml, hown, hts⟩, hlk, hK, hJ, hok, hss, hrc, hrs⟩ := X
  intro H locs ls hP hS hl r μ' hE
  subst hp
  exact lv_icmp_eq hx hb hd ht (fun h => kt H locs ls hP hS hl r μ' (by rw [if_pos h] at hE; exact hE)) (fun h => kf H locs ls hP hS hl r μ' (by rw [if_neg h] at hE; exact hE))
theorem gx_if_eq (X : mm_C p R s m args meth c cc nL own D cA adr N SS) (pc tgt pc' : Nat) {x : Int32} {off : Int} {E1 E2 : Aa} (hd : decode cc pc = .ok (.ifCond .eq off, 3)) (ht : (pc : Int) + off = (tgt : Int)) (hp : pc + 3 = pc') (kt : mm_G p l e R s m args below meth c nL D cA adr sh N Qf μ tgt lv st E1) (kf : mm_G p l e R s m args below meth c nL D cA adr sh N Qf μ pc' lv st E2) : mm_G p l e R s m args below meth c nL D cA adr sh N Qf μ pc lv (.int x :: st) (if x = 0 then E1 else E2) := by
  obtain ⟨⟨w0, hx, hb, hml, hown, hts⟩, hlk, hK, hJ, hok, hss, hrc, hrs⟩ := X
  intro H locs ls hP hS hl r μ' hE
  subst hp
  exact lv_if_eq hx hb hd ht (fun h => kt H locs ls hP hS hl r μ' (by rw [if_pos h] at hE; exact hE)) (fun h => kf H locs ls hP hS hl r μ' (by rw [if_neg h] at hE; exact hE))
theorem gx_icmp_ne (X : mm_C p R s m args meth c cc nL own D cA adr N SS) (pc tgt pc' : Nat) {x y : Int32} {off : Int} {E1 E2 : Aa} (hd : decode cc pc = .ok (.if_icmp .ne off, 3)) (ht : (pc : Int) + off = (tgt : Int)) (hp : pc + 3 = pc') (kt : mm_G p l e R s m args below meth c nL D cA adr sh N Qf μ tgt lv st E1) (kf : mm_G p l e R s m args below meth c nL D cA adr sh N Qf μ pc' lv st E2) : mm_G p l e R s m args below meth c nL D cA adr sh N Qf μ pc lv (.int y :: .int x :: st) (if x = y then E2 else E1) := by
  obtain ⟨⟨w0, hx, hb, hml, hown, hts⟩, hlk, hK, hJ, hok, hss, hrc, hrs⟩ := X
  intro H locs ls hP hS hl r μ' hE
  subst hp
  exact lv_icmp_ne hx hb hd ht (fun h => kt H locs ls hP hS hl r μ' (by rw [if_neg h] at hE; exact hE)) (fun h => kf H locs ls hP hS hl r μ' (by rw [if_pos h] at hE; exact hE))
theorem gx_if_ne (X : mm_C p R s m args meth c cc nL own D cA adr N SS) (pc tgt pc' : Nat) {x : Int32} {off : Int} {E1 E2 : Aa} (hd : decode cc pc = .ok (.ifCond .ne off, 3)) (ht : (pc : Int) + off = (tgt : Int)) (hp : pc + 3 = pc') (kt : mm_G p l e R s m args below meth c nL D cA adr sh N Qf μ tgt lv st E1) (kf : mm_G p l e R s m args below meth c nL D cA adr sh N Qf μ pc' lv st E2) : mm_G p l e R s m args below meth c nL D cA adr sh N Qf μ pc lv (.int x :: st) (if x = 0 then E2 else E1) := by
  obtain ⟨⟨w0, hx, hb, hml, hown, hts⟩, hlk, hK, hJ, hok, hss, hrc, hrs⟩ := X
  intro H locs ls hP hS hl r μ' hE
  subst hp
  exact lv_if_ne hx hb hd ht (fun h => kt H locs ls hP hS hl r μ' (by rw [if_neg h] at hE; exact hE)) (fun h => kf H locs ls hP hS hl r μ' (by rw [if_pos h] at hE; exact hE))
theorem gx_icmp_lt (X : mm_C p R s m args meth c cc nL own D cA adr N SS) (pc tgt pc' : Nat) {x y : Int32} {off : Int} {E1 E2 : Aa} (hd : decode cc pc = .ok (.if_icmp .lt off, 3)) (ht : (pc : Int) + off = (tgt : Int)) (hp : pc + 3 = pc') (kt : mm_G p l e R s m args below meth c nL D cA adr sh N Qf μ tgt lv st E1) (kf : mm_G p l e R s m args below meth c nL D cA adr sh N Qf μ pc' lv st E2) : mm_G p l e R s m args below meth c nL D cA adr sh N Qf μ pc lv (.int y :: .int x :: st) (if x < y then E1 else E2) := by
  obtain ⟨⟨w0, hx, hb, hml, hown, hts⟩, hlk, hK, hJ, hok, hss, hrc, hrs⟩ := X
  intro H locs ls hP hS hl r μ' hE
  subst hp
  exact lv_icmp_lt hx hb hd ht (fun h => kt H locs ls hP hS hl r μ' (by rw [if_pos h] at hE; exact hE)) (fun h => kf H locs ls hP hS hl r μ' (by rw [if_neg h] at hE; exact hE))
theorem gx_if_lt (X : mm_C p R s m args meth c cc nL own D cA adr N SS) (pc tgt pc' : Nat) {x : Int32} {off : Int} {E1 E2 : Aa} (hd : decode cc pc = .ok (.ifCond .lt off, 3)) (ht : (pc : Int) + off = (tgt : Int)) (hp : pc + 3 = pc') (kt : mm_G p l e R s m args below meth c nL D cA adr sh N Qf μ tgt lv st E1) (kf : mm_G p l e R s m args below meth c nL D cA adr sh N Qf μ pc' lv st E2) : mm_G p l e R s m args below meth c nL D cA adr sh N Qf μ pc lv (.int x :: st) (if x < 0 then E1 else E2) := by
  obtain ⟨⟨w0, hx, hb, hml, hown, hts⟩, hlk, hK, hJ, hok, hss, hrc, hrs⟩ := X
  intro H locs ls hP hS hl r μ' hE
  subst hp
  exact lv_if_lt hx hb hd ht (fun h => kt H locs ls hP hS hl r μ' (by rw [if_pos h] at hE; exact hE)) (fun h => kf H locs ls hP hS hl r μ' (by rw [if_neg h] at hE; exact hE))
theorem gx_icmp_ge (X : mm_C p R s m args meth c cc nL own D cA adr N SS) (pc tgt pc' : Nat) {x y : Int32} {off : Int} {E1 E2 : Aa} (hd : decode cc pc = .ok (.if_icmp .ge off, 3)) (ht : (pc : Int) + off = (tgt : Int)) (hp : pc + 3 = pc') (kt : mm_G p l e R s m args below meth c nL D cA adr sh N Qf μ tgt lv st E1) (kf : mm_G p l e R s m args below meth c nL D cA adr sh N Qf μ pc' lv st E2) : mm_G p l e R s m args below meth c nL D cA adr sh N Qf μ pc lv (.int y :: .int x :: st) (if y ≤ x then E1 else E2) := by
  obtain ⟨⟨w0, hx, hb, hml, hown, hts⟩, hlk, hK, hJ, hok, hss, hrc, hrs⟩ := X
  intro H locs ls hP hS hl r μ' hE
  subst hp
  exact lv_icmp_ge hx hb hd ht (fun h => kt H locs ls hP hS hl r μ' (by rw [if_pos h] at hE; exact hE)) (fun h => kf H locs ls hP hS hl r μ' (by rw [if_neg h] at hE; exact hE))
theorem gx_if_ge (X : mm_C p R s m args meth c cc nL own D cA adr N SS) (pc tgt pc' : Nat) {x : Int32} {off : Int} {E1 E2 : Aa} (hd : decode cc pc = .ok (.ifCond .ge off, 3)) (ht : (pc : Int) + off = (tgt : Int)) (hp : pc + 3 = pc') (kt : mm_G p l e R s m args below meth c nL D cA adr sh N Qf μ tgt lv st E1) (kf : mm_G p l e R s m args below meth c nL D cA adr sh N Qf μ pc' lv st E2) : mm_G p l e R s m args below meth c nL D cA adr sh N Qf μ pc lv (.int x :: st) (if 0 ≤ x then E1 else E2) := by
  obtain ⟨⟨w0, hx, hb, hml, hown, hts⟩, hlk, hK, hJ, hok, hss, hrc, hrs⟩ := X
  intro H locs ls hP hS hl r μ' hE
  subst hp
  exact lv_if_ge hx hb hd ht (fun h => kt H locs ls hP hS hl r μ' (by rw [if_pos h] at hE; exact hE)) (fun h => kf H locs ls hP hS hl r μ' (by rw [if_neg h] at hE; exact hE))
theorem gx_icmp_gt (X : mm_C p R s m args meth c cc nL own D cA adr N SS) (pc tgt pc' : Nat) {x y : Int32} {off : Int} {E1 E2 : Aa} (hd : decode cc pc = .ok (.if_icmp .gt off, 3)) (ht : (pc : Int) + off = (tgt : Int)) (hp : pc + 3 = pc') (kt : mm_G p l e R s m args below meth c nL D cA adr sh N Qf μ tgt lv st E1) (kf : mm_G p l e R s m args below meth c nL D cA adr sh N Qf μ pc' lv st E2) : mm_G p l e R s m args below meth c nL D cA adr sh N Qf μ pc lv (.int y :: .int x :: st) (if y < x then E1 else E2) := by
  obtain ⟨⟨w0, hx, hb, hml, hown, hts⟩, hlk, hK, hJ, hok, hss, hrc, hrs⟩ := X
  intro H locs ls hP hS hl r μ' hE
  subst hp
  exact lv_icmp_gt hx hb hd ht (fun h => kt H locs ls hP hS hl r μ' (by rw [if_pos h] at hE; exact hE)) (fun h => kf H locs ls hP hS hl r μ' (by rw [if_neg h] at hE; exact hE))
theorem gx_if_gt (X : mm_C p R s m args meth c cc nL own D cA adr N SS) (pc tgt pc' : Nat) {x : Int32} {off : Int} {E1 E2 : Aa} (hd : decode cc pc = .ok (.ifCond .gt off, 3)) (ht : (pc : Int) + off = (tgt : Int)) (hp : pc + 3 = pc') (kt : mm_G p l e R s m args below meth c nL D cA adr sh N Qf μ tgt lv st E1) (kf : mm_G p l e R s m args below meth c nL D cA adr sh N Qf μ pc' lv st E2) : mm_G p l e R s m args below meth c nL D cA adr sh N Qf μ pc lv (.int x :: st) (if 0 < x then E1 else E2) := by
  obtain ⟨⟨w0, hx, hb, hml, hown, hts⟩, hlk, hK, hJ, hok, hss, hrc, hrs⟩ := X
  intro H locs ls hP hS hl r μ' hE
  subst hp
  exact lv_if_gt hx hb hd ht (fun h => kt H locs ls hP hS hl r μ' (by rw [if_pos h] at hE; exact hE)) (fun h => kf H locs ls hP hS hl r μ' (by rw [if_neg h] at hE; exact hE))
theorem gx_icmp_le (X : mm_C p R s m args meth c cc nL own D cA adr N SS) (pc tgt pc' : Nat) {x y : Int32} {off : Int} {E1 E2 : Aa} (hd : decode cc pc = .ok (.if_icmp .le off, 3)) (ht : (pc : Int) + off = (tgt : Int)) (hp : pc + 3 = pc') (kt : mm_G p l e R s m args below meth c nL D cA adr sh N Qf μ tgt lv st E1) (kf : mm_G p l e R s m args below meth c nL D cA adr sh N Qf μ pc' lv st E2) : mm_G p l e R s m args below meth c nL D cA adr sh N Qf μ pc lv (.int y :: .int x :: st) (if x ≤ y then E1 else E2) := by
  obtain ⟨⟨w0, hx, hb, hml, hown, hts⟩, hlk, hK, hJ, hok, hss, hrc, hrs⟩ := X
  intro H locs ls hP hS hl r μ' hE
  subst hp
  exact lv_icmp_le hx hb hd ht (fun h => kt H locs ls hP hS hl r μ' (by rw [if_pos h] at hE; exact hE)) (fun h => kf H locs ls hP hS hl r μ' (by rw [if_neg h] at hE; exact hE))
theorem gx_if_le (X : mm_C p R s m args meth c cc nL own D cA adr N SS) (pc tgt pc' : Nat) {x : Int32} {off : Int} {E1 E2 : Aa} (hd : decode cc pc = .ok (.ifCond .le off, 3)) (ht : (pc : Int) + off = (tgt : Int)) (hp : pc + 3 = pc') (kt : mm_G p l e R s m args below meth c nL D cA adr sh N Qf μ tgt lv st E1) (kf : mm_G p l e R s m args below meth c nL D cA adr sh N Qf μ pc' lv st E2) : mm_G p l e R s m args below meth c nL D cA adr sh N Qf μ pc lv (.int x :: st) (if x ≤ 0 then E1 else E2) := by
  obtain ⟨⟨w0, hx, hb, hml, hown, hts⟩, hlk, hK, hJ, hok, hss, hrc, hrs⟩ := X
  intro H locs ls hP hS hl r μ' hE
  subst hp
  exact lv_if_le hx hb hd ht (fun h => kt H locs ls hP hS hl r μ' (by rw [if_pos h] at hE; exact hE)) (fun h => kf H locs ls hP hS hl r μ' (by rw [if_neg h] at hE; exact hE))
theorem gx_goto (X : mm_C p R s m args meth c cc nL own D cA adr N SS) (pc tgt : Nat) {off : Int} (hd : decode cc pc = .ok (.goto off, 3)) (ht : (pc : Int) + off = (tgt : Int)) (kk : mm_G p l e R s m args below meth c nL D cA adr sh N Qf μ tgt lv st E) : mm_G p l e R s m args below meth c nL D cA adr sh N Qf μ pc lv st E := by
  obtain ⟨⟨w0, hx, hb, hml, hown, hts⟩, hlk, hK, hJ, hok, hss, hrc, hrs⟩ := X
  intro H locs ls hP hS hl r μ' hE
  exact lv_goto hx hb hd ht (kk H locs ls hP hS hl r μ' hE)
theorem gx_tabIn (X : mm_C p R s m args meth c cc nL own D cA adr N SS) (pc tgt : Nat) {dflt lo hi : Int} {offs : Array Int} {len : Nat} {x : Int32} (v : Int32) {off : Int} (hxv : x = v) (hd : decode cc pc = .ok (.tableswitch dflt lo hi offs, len)) (h1 : ¬ v.toInt < lo) (h2 : ¬ hi < v.toInt) (ho : offs[(v.toInt - lo).toNat]? = some off) (ht : (pc : Int) + off = (tgt : Int)) (kk : mm_G p l e R s m args below meth c nL D cA adr sh N Qf μ tgt lv st E) : mm_G p l e R s m args below meth c nL D cA adr sh N Qf μ pc lv (.int x :: st) E := by
  obtain ⟨⟨w0, hx, hb, hml, hown, hts⟩, hlk, hK, hJ, hok, hss, hrc, hrs⟩ := X
  intro H locs ls hP hS hl r μ' hE
  subst hxv
  exact lv_tableIn hx hb hd h1 h2 ho ht (kk H locs ls hP hS hl r μ' hE)
theorem gx_tabOut (X : mm_C p R s m args meth c cc nL own D cA adr N SS) (pc tgt : Nat) {dflt lo hi : Int} {offs : Array Int} {len : Nat} {x : Int32} (hd : decode cc pc = .ok (.tableswitch dflt lo hi offs, len)) (h : x.toInt < lo ∨ hi < x.toInt) (ht : (pc : Int) + dflt = (tgt : Int)) (kk : mm_G p l e R s m args below meth c nL D cA adr sh N Qf μ tgt lv st E) : mm_G p l e R s m args below meth c nL D cA adr sh N Qf μ pc lv (.int x :: st) E := by
  obtain ⟨⟨w0, hx, hb, hml, hown, hts⟩, hlk, hK, hJ, hok, hss, hrc, hrs⟩ := X
  intro H locs ls hP hS hl r μ' hE
  exact lv_tableOut hx hb hd h ht (kk H locs ls hP hS hl r μ' hE)
theorem gx_look (X : mm_C p R s m args meth c cc nL own D cA adr N SS) (pc tgt : Nat) {dflt : Int} {ps : Array (Int × Int)} {len : Nat} {x : Int32} {off : Int} (hd : decode cc pc = .ok (.lookupswitch dflt ps, len)) (hp : (ps.toList.zip (ps.toList.drop 1)).all (fun (a, next) => a.1 < next.1) = true) (ho : Op.lookupswitch.offset ps.toList dflt x.toInt = off) (ht : (pc : Int) + off = (tgt : Int)) (kk : mm_G p l e R s m args below meth c nL D cA adr sh N Qf μ tgt lv st E) : mm_G p l e R s m args below meth c nL D cA adr sh N Qf μ pc lv (.int x :: st) E := by
  obtain ⟨⟨w0, hx, hb, hml, hown, hts⟩, hlk, hK, hJ, hok, hss, hrc, hrs⟩ := X
  intro H locs ls hP hS hl r μ' hE
  exact lv_lookup hx hb hd hp ho ht (kk H locs ls hP hS hl r μ' hE)
theorem gx_lookAt (X : mm_C p R s m args meth c cc nL own D cA adr N SS) (pc tgt : Nat) {dflt : Int} {ps : Array (Int × Int)} {len : Nat} {x : Int32} (v : Int32) {off : Int} (hxv : x = v) (hd : decode cc pc = .ok (.lookupswitch dflt ps, len)) (hp : (ps.toList.zip (ps.toList.drop 1)).all (fun (a, next) => a.1 < next.1) = true) (ho : Op.lookupswitch.offset ps.toList dflt v.toInt = off) (ht : (pc : Int) + off = (tgt : Int)) (kk : mm_G p l e R s m args below meth c nL D cA adr sh N Qf μ tgt lv st E) : mm_G p l e R s m args below meth c nL D cA adr sh N Qf μ pc lv (.int x :: st) E := by
  obtain ⟨⟨w0, hx, hb, hml, hown, hts⟩, hlk, hK, hJ, hok, hss, hrc, hrs⟩ := X
  intro H locs ls hP hS hl r μ' hE
  subst hxv
  exact lv_lookup hx hb hd hp ho ht (kk H locs ls hP hS hl r μ' hE)
/-- a site that reads a field: the class that stands there, the pool's number, the object's class and place -/
def mm_F (own : String) (index ci j : Nat) : Prop := ∃ (C : String) (T : u_T) (n : Nat), vwCl[ci]? = some (C, T, n) ∧ (∀ w ∈ u_ws C T n, w ∈ mm_TB) ∧ j < n ∧ Cond.fieldLink own index (T j).1 (T j).2.1 (T j).2.2.1 ∈ mm_TB
def mm_Fp (own : String) (index ci j : Nat) (ty : FieldType) : Prop := ∃ (C : String) (T : u_T) (n : Nat) (ty0 : Nat → FieldType), vwCl[ci]? = some (C, T, n) ∧ (∀ w ∈ u_ws C T n, w ∈ mm_TB) ∧ j < n ∧ Cond.fieldLink own index (T j).1 (T j).2.1 (T j).2.2.1 ∈ mm_TB ∧ (∀ k, k < n → parseFieldDescriptor (T k).2.2.1 = some (ty0 k)) ∧ (∀ a, a < n → ∀ b, b < n → a ≠ b → (T a).2.1 ≠ (T b).2.1) ∧ (T j).2.2.2 = false ∧ parseFieldDescriptor (T j).2.2.1 = some ty
theorem gx_getI (X : mm_C p R s m args meth c cc nL own D cA adr N SS) (pc pc' k : Nat) {index ci j : Nat} {fs : List (Option Nat)} (hk : k < N) (hs : sh k = .inr (.inr (ci, fs))) (hf : fs[j]? = some none) (hF : mm_F own index ci j) (hd : decode cc pc = .ok (.getfield index, 3)) (hp : pc + 3 = pc') (kk : mm_G p l e R s m args below meth c nL D cA adr sh N Qf μ pc' lv (.int (μ k j) :: st) E) : mm_G p l e R s m args below meth c nL D cA adr sh N Qf μ pc lv (.ref (adr k) :: st) E := by
  obtain ⟨⟨w0, hx, hb, hml, hown, hts⟩, hlk, hK, hJ, hok, hss, hrc, hrs⟩ := X
  intro H locs ls hP hS hl r μ' hE
  subst hp
  obtain ⟨C, T, n, hc, hin, hj, hw⟩ := hF
  have he : (mm_ws cA adr sh N μ)[k]? = some (adr k, .inr (ci, mm_fs adr (μ k) fs 0)) := by rw [mm_ws_get hk, hs]; rfl
  have hv : (mm_fs adr (μ k) fs 0)[j]? = some (.int (μ k j)) := by rw [mm_fs_get, hf]; simp
  exact va_get (D := D) hx hb hts (fun w h => List.mem_cons_of_mem _ (hin w h)) hown hK hP k he hc j hj (hts _ (List.mem_cons_of_mem _ hw)) (fun _ h9 => h9) hv hd (kk H locs ls hP hS hl r μ' hE)
theorem gx_getR (X : mm_C p R s m args meth c cc nL own D cA adr N SS) (pc pc' k : Nat) {index ci j : Nat} {r0 : Nat} {fs : List (Option Nat)} (hk : k < N) (hs : sh k = .inr (.inr (ci, fs))) (hf : fs[j]? = some (some r0)) (hF : mm_F own index ci j) (hd : decode cc pc = .ok (.getfield index, 3)) (hp : pc + 3 = pc') (kk : mm_G p l e R s m args below meth c nL D cA adr sh N Qf μ pc' lv (.ref (adr r0) :: st) E) : mm_G p l e R s m args below meth c nL D cA adr sh N Qf μ pc lv (.ref (adr k) :: st) E := by
  obtain ⟨⟨w0, hx, hb, hml, hown, hts⟩, hlk, hK, hJ, hok, hss, hrc, hrs⟩ := X
  intro H locs ls hP hS hl r μ' hE
  subst hp
  obtain ⟨C, T, n, hc, hin, hj, hw⟩ := hF
  have he : (mm_ws cA adr sh N μ)[k]? = some (adr k, .inr (ci, mm_fs adr (μ k) fs 0)) := by rw [mm_ws_get hk, hs]; rfl
  have hv : (mm_fs adr (μ k) fs 0)[j]? = some (.ref (adr r0)) := by rw [mm_fs_get, hf]; simp
  exact va_get (D := D) hx hb hts (fun w h => List.mem_cons_of_mem _ (hin w h)) hown hK hP k he hc j hj (hts _ (List.mem_cons_of_mem _ hw)) (fun _ h9 => h9) hv hd (kk H locs ls hP hS hl r μ' hE)
theorem gx_putI (X : mm_C p R s m args meth c cc nL own D cA adr N SS) (pc pc' k : Nat) {index ci j : Nat} {x : Int32} {fs : List (Option Nat)} {f : Mm → Aa} (hk : k < N) (hs : sh k = .inr (.inr (ci, fs))) (hf : fs[j]? = some none) (hF : mm_Fp own index ci j .int) (hd : decode cc pc = .ok (.putfield index, 3)) (hp : pc + 3 = pc') (kk : ∀ μ1, mm_G p l e R s m args below meth c nL D cA adr sh N Qf μ1 pc' lv st (f μ1)) : mm_G p l e R s m args below meth c nL D cA adr sh N Qf μ pc lv (.int x :: .ref (adr k) :: st) (mm_lt (mm_wr μ k j x) f) := by
  obtain ⟨⟨w0, hx, hb, hml, hown, hts⟩, hlk, hK, hJ, hok, hss, hrc, hrs⟩ := X
  intro H locs ls hP hS hl r μ' hE
  subst hp
  obtain ⟨C, T, n, ty0, hc, hin, hj, hw, hty, hnm, hfin, hpd⟩ := hF
  have he : (mm_ws cA adr sh N μ)[k]? = some (adr k, .inr (ci, mm_fs adr (μ k) fs 0)) := by rw [mm_ws_get hk, hs]; rfl
  refine va_put (D := D) (v := .int x) hx hb hts (fun w h => List.mem_cons_of_mem _ (hin w h)) ty0 hty hnm hown hK hP (mm_ws_D hJ) hS k he hc j hj (hts _ (List.mem_cons_of_mem _ hw)) (fun _ h9 => h9) hfin hpd rfl rfl (by rw [mm_fs_len]; exact (List.getElem?_eq_some_iff.mp hf).1) hd (fun H1 locs1 hP1 _ hS1 => ?_)
  have e1 : (adr k, (.inr (ci, (mm_fs adr (μ k) fs 0).set j (.int x)) : va_E)) = (adr k, mm_cell cA adr (mm_wr μ k j x k) (sh k)) := by rw [mm_fs_set adr (μ k) fs j x hf, hs, mm_wr_k]; rfl
  rw [e1, mm_ws_set hk (fun a ha => mm_wr_ne j x ha)] at hP1
  exact kk _ H1 locs1 ls hP1 hS1 hl r μ' hE
theorem gx_putZ (X : mm_C p R s m args meth c cc nL own D cA adr N SS) (pc pc' k : Nat) {index ci j : Nat} {x : Int32} {fs : List (Option Nat)} {f : Mm → Aa} (hk : k < N) (hs : sh k = .inr (.inr (ci, fs))) (hf : fs[j]? = some none) (hF : mm_Fp own index ci j .boolean) (hd : decode cc pc = .ok (.putfield index, 3)) (hp : pc + 3 = pc') (kk : ∀ μ1, mm_G p l e R s m args below meth c nL D cA adr sh N Qf μ1 pc' lv st (f μ1)) : mm_G p l e R s m args below meth c nL D cA adr sh N Qf μ pc lv (.int x :: .ref (adr k) :: st) (mm_bo x (mm_lt (mm_wr μ k j x) f)) := by
  obtain ⟨⟨w0, hx, hb, hml, hown, hts⟩, hlk, hK, hJ, hok, hss, hrc, hrs⟩ := X
  intro H locs ls hP hS hl r μ' hE
  subst hp
  obtain ⟨hz, hE⟩ := mm_bo_some hE
  obtain ⟨C, T, n, ty0, hc, hin, hj, hw, hty, hnm, hfin, hpd⟩ := hF
  have he : (mm_ws cA adr sh N μ)[k]? = some (adr k, .inr (ci, mm_fs adr (μ k) fs 0)) := by rw [mm_ws_get hk, hs]; rfl
  refine va_put (D := D) (v := .int x) hx hb hts (fun w h => List.mem_cons_of_mem _ (hin w h)) ty0 hty hnm hown hK hP (mm_ws_D hJ) hS k he hc j hj (hts _ (List.mem_cons_of_mem _ hw)) (fun _ h9 => h9) hfin hpd (mm_narb hz) (mm_fitb hz) (by rw [mm_fs_len]; exact (List.getElem?_eq_some_iff.mp hf).1) hd (fun H1 locs1 hP1 _ hS1 => ?_)
  have e1 : (adr k, (.inr (ci, (mm_fs adr (μ k) fs 0).set j (.int x)) : va_E)) = (adr k, mm_cell cA adr (mm_wr μ k j x k) (sh k)) := by rw [mm_fs_set adr (μ k) fs j x hf, hs, mm_wr_k]; rfl
  rw [e1, mm_ws_set hk (fun a ha => mm_wr_ne j x ha)] at hP1
  exact kk _ H1 locs1 ls hP1 hS1 hl r μ' hE
theorem gx_iaload (X : mm_C p R s m args meth c cc nL own D cA adr N SS) (pc pc' k : Nat) {n : Nat} {i : Int32} (hk : k < N) (hs : sh k = .inl n) (hd : decode cc pc = .ok (.iaload, 1)) (hp : pc + 1 = pc') (kk : mm_G p l e R s m args below meth c nL D cA adr sh N Qf μ pc' lv (.int (μ k i.toNatClampNeg) :: st) E) : mm_G p l e R s m args below meth c nL D cA adr sh N Qf μ pc lv (.int i :: .ref (adr k) :: st) (mm_ck i n E) := by
  obtain ⟨⟨w0, hx, hb, hml, hown, hts⟩, hlk, hK, hJ, hok, hss, hrc, hrs⟩ := X
  intro H locs ls hP hS hl r μ' hE
  subst hp
  obtain ⟨hi, hE⟩ := mm_ck_some hE
  have he : (mm_ws cA adr sh N μ)[k]? = some (adr k, .inl (cA 0, n, .inl (μ k))) := by rw [mm_ws_get hk, hs]; rfl
  exact va_iald (D := D) hx hb hK hP k 0 he rfl hi hd (kk H locs ls hP hS hl r μ' hE)
theorem gx_iastore (X : mm_C p R s m args meth c cc nL own D cA adr N SS) (pc pc' k : Nat) {n : Nat} {i x : Int32} {f : Mm → Aa} (hk : k < N) (hs : sh k = .inl n) (hd : decode cc pc = .ok (.iastore, 1)) (hp : pc + 1 = pc') (kk : ∀ μ1, mm_G p l e R s m args below meth c nL D cA adr sh N Qf μ1 pc' lv st (f μ1)) : mm_G p l e R s m args below meth c nL D cA adr sh N Qf μ pc lv (.int x :: .int i :: .ref (adr k) :: st) (mm_ck i n (mm_lt (mm_wr μ k i.toNatClampNeg x) f)) := by
  obtain ⟨⟨w0, hx, hb, hml, hown, hts⟩, hlk, hK, hJ, hok, hss, hrc, hrs⟩ := X
  intro H locs ls hP hS hl r μ' hE
  subst hp
  obtain ⟨hi, hE⟩ := mm_ck_some hE
  have he : (mm_ws cA adr sh N μ)[k]? = some (adr k, .inl (cA 0, n, .inl (μ k))) := by rw [mm_ws_get hk, hs]; rfl
  refine va_iast (D := D) hx hb hK hP (mm_ws_D hJ) hS k 0 he rfl hi hd (fun H1 locs1 hP1 _ hS1 => ?_)
  have e1 : (adr k, (.inl (cA 0, n, .inl (upd (μ k) i.toNatClampNeg x)) : va_E)) = (adr k, mm_cell cA adr (mm_wr μ k i.toNatClampNeg x k) (sh k)) := by rw [hs, mm_wr_k]; rfl
  rw [e1, mm_ws_set hk (fun a ha => mm_wr_ne _ x ha)] at hP1
  exact kk _ H1 locs1 ls hP1 hS1 hl r μ' hE
theorem gx_aaload (X : mm_C p R s m args meth c cc nL own D cA adr N SS) (pc pc' k : Nat) {n t r0 : Nat} {i : Int32} {ty : FieldType} (hk : k < N) (hs : sh k = .inr (.inl (t, n, r0))) (ht : (mm_ty cA)[t]? = some (cA t, ty)) (hr : ty.isReference = true) (hd : decode cc pc = .ok (.aaload, 1)) (hp : pc + 1 = pc') (kk : vp_in i n → mm_G p l e R s m args below meth c nL D cA adr sh N Qf μ pc' lv (.ref (adr (r0 + i.toNatClampNeg)) :: st) E) : mm_G p l e R s m args below meth c nL D cA adr sh N Qf μ pc lv (.int i :: .ref (adr k) :: st) (mm_ck i n E) := by
  obtain ⟨⟨w0, hx, hb, hml, hown, hts⟩, hlk, hK, hJ, hok, hss, hrc, hrs⟩ := X
  intro H locs ls hP hS hl r μ' hE
  subst hp
  obtain ⟨hi, hE⟩ := mm_ck_some hE
  have he : (mm_ws cA adr sh N μ)[k]? = some (adr k, .inl (cA t, n, .inr (.inr (.inr (.inr (fun j => some (adr (r0 + j)))))))) := by rw [mm_ws_get hk, hs]; rfl
  exact W.aald (v := va_rf (some (adr (r0 + i.toNatClampNeg)))) (ty := ty) hx hb (hP k _ he) ((hK.2 t _ ht).1 n (fun j => va_rf (some (adr (r0 + j))))) hr (fun q => by cases q) (by show ¬ (i < 0 ∨ (arrV _ _ _).slots.size ≤ _); rw [arrV_size]; exact hi) (by show (arrV _ _ _).slots[_]? = _; rw [arrV_read _ _ (mm_in hi)]) rfl rfl hd (kk hi H locs ls hP hS hl r μ' hE)
theorem gx_alen (X : mm_C p R s m args meth c cc nL own D cA adr N SS) (pc pc' k : Nat) {n : Nat} (v : Int32) (hk : k < N) (hs : sh k = .inl n) (hv : Int32.ofNat n = v) (hd : decode cc pc = .ok (.arraylength, 1)) (hp : pc + 1 = pc') (kk : mm_G p l e R s m args below meth c nL D cA adr sh N Qf μ pc' lv (.int v :: st) E) : mm_G p l e R s m args below meth c nL D cA adr sh N Qf μ pc lv (.ref (adr k) :: st) E := by
  obtain ⟨⟨w0, hx, hb, hml, hown, hts⟩, hlk, hK, hJ, hok, hss, hrc, hrs⟩ := X
  intro H locs ls hP hS hl r μ' hE
  subst hp
  have he : (mm_ws cA adr sh N μ)[k]? = some (adr k, .inl (cA 0, n, .inl (μ k))) := by rw [mm_ws_get hk, hs]; rfl
  exact va_alen (D := D) hx hb hK hP k 0 he rfl hv hd (kk H locs ls hP hS hl r μ' hE)
theorem gx_mmax (X : mm_C p R s m args meth c cc nL own D cA adr N SS) (pc pc' : Nat) {index : Nat} {x y : Int32} (hw : Cond.methodLink own index Lib.Math.max.name ∈ mm_TB) (hw1 : Cond.static Lib.Math.max.name ∈ mm_TB) (hw2 : Cond.initialized "java/lang/Math" ∈ mm_TB) (hw3 : Cond.code Lib.Math.max.name Lib.Math.max.code 2 (some .int) ∈ mm_TB) (hf : 1 ≤ R.frames) (hl0 : (st.map fun v => v.category).sum + 13 ≤ R.locals) (hd : decode cc pc = .ok (.invokestatic index, 3)) (hp : pc + 3 = pc') (kk : mm_G p l e R s m args below meth c nL D cA adr sh N Qf μ pc' lv (.int (if x < y then y else x) :: st) E) : mm_G p l e R s m args below meth c nL D cA adr sh N Qf μ pc lv (.int y :: .int x :: st) E := by
  obtain ⟨⟨w0, hx, hb, hml, hown, hts⟩, hlk, hK, hJ, hok, hss, hrc, hrs⟩ := X
  intro H locs ls hP hS hl r μ' hE
  subst hp
  exact va_mmax hx hb (hml.trans hl.1.symm) hown (hts _ (List.mem_cons_of_mem _ hw)) (hts _ (List.mem_cons_of_mem _ hw1)) (hts _ (List.mem_cons_of_mem _ hw2)) (hts _ (List.mem_cons_of_mem _ hw3)) hf hl0 (Nat.zero_le _) (Nat.zero_le _) hd (kk H locs ls hP hS hl r μ' hE)
theorem gx_mmin (X : mm_C p R s m args meth c cc nL own D cA adr N SS) (pc pc' : Nat) {index : Nat} {x y : Int32} (hw : Cond.methodLink own index Lib.Math.min.name ∈ mm_TB) (hw1 : Cond.static Lib.Math.min.name ∈ mm_TB) (hw2 : Cond.initialized "java/lang/Math" ∈ mm_TB) (hw3 : Cond.code Lib.Math.min.name Lib.Math.min.code 2 (some .int) ∈ mm_TB) (hf : 1 ≤ R.frames) (hl0 : (st.map fun v => v.category).sum + 13 ≤ R.locals) (hd : decode cc pc = .ok (.invokestatic index, 3)) (hp : pc + 3 = pc') (kk : mm_G p l e R s m args below meth c nL D cA adr sh N Qf μ pc' lv (.int (if y < x then y else x) :: st) E) : mm_G p l e R s m args below meth c nL D cA adr sh N Qf μ pc lv (.int y :: .int x :: st) E := by
  obtain ⟨⟨w0, hx, hb, hml, hown, hts⟩, hlk, hK, hJ, hok, hss, hrc, hrs⟩ := X
  intro H locs ls hP hS hl r μ' hE
  subst hp
  exact va_mmin hx hb (hml.trans hl.1.symm) hown (hts _ (List.mem_cons_of_mem _ hw)) (hts _ (List.mem_cons_of_mem _ hw1)) (hts _ (List.mem_cons_of_mem _ hw2)) (hts _ (List.mem_cons_of_mem _ hw3)) hf hl0 (Nat.zero_le _) (Nat.zero_le _) hd (kk H locs ls hP hS hl r μ' hE)
theorem gx_iret (X : mm_C p R s m args meth c cc nL own D cA adr N SS) (pc : Nat) {v : Int32} (hr : meth.sig.returnType = some .int) (hd : decode cc pc = .ok (.ireturn, 1)) : mm_G p l e R s m args below meth c nL D cA adr sh N (mm_Qi D cA adr sh N) μ pc lv [.int v] (some (v, μ)) := by
  obtain ⟨⟨w0, hx, hb, hml, hown, hts⟩, hlk, hK, hJ, hok, hss, hrc, hrs⟩ := X
  intro H locs ls hP hS hl r μ' hE
  cases hE
  exact W.iret (v := v) hx hb hr (fun t ht _ => ⟨⟨v, μ, rfl, ⟨rfl, rfl⟩, by show va_P D vwCl _ t.heap; rw [ht]; exact hP⟩, hS.F ht⟩) hS.2.2 hd hlk
theorem gx_zret (X : mm_C p R s m args meth c cc nL own D cA adr N SS) (pc : Nat) {v : Int32} (hr : meth.sig.returnType = some .boolean) (hd : decode cc pc = .ok (.ireturn, 1)) : mm_G p l e R s m args below meth c nL D cA adr sh N (mm_Qi D cA adr sh N) μ pc lv [.int v] (mm_bo v (some (v, μ))) := by
  obtain ⟨⟨w0, hx, hb, hml, hown, hts⟩, hlk, hK, hJ, hok, hss, hrc, hrs⟩ := X
  intro H locs ls hP hS hl r μ' hE
  obtain ⟨hz, hE⟩ := mm_bo_some hE
  cases hE
  exact W.zret (v := v) hx hb hr (mm_narb hz) (fun t ht _ => ⟨⟨v, μ, rfl, ⟨rfl, rfl⟩, by show va_P D vwCl _ t.heap; rw [ht]; exact hP⟩, hS.F ht⟩) hS.2.2 hd hlk
def mm_rg (lo hi : Int32) (v : Int32) (E : Aa) : Aa := if lo ≤ v ∧ v ≤ hi then E else none
theorem mm_rg_some {lo hi v : Int32} {E : Aa} {q : Int32 × Mm} (h : mm_rg lo hi v E = some q) : (lo ≤ v ∧ v ≤ hi) ∧ E = some q := by
  unfold mm_rg at h
  by_cases e : lo ≤ v ∧ v ≤ hi
  · rw [if_pos e] at h; exact ⟨e, h⟩
  · rw [if_neg e] at h; cases h
theorem mm_narc {v : Int32} (h : 0 ≤ v ∧ v ≤ 65535) : narrow .char (.int v) = .int v := by
  obtain ⟨j, hj, rfl⟩ := nI_of2 (n := 65535) (by decide) (fun q => by have := h.1; rw [Int32.le_iff_toInt_le] at this; rw [Int32.lt_iff_toInt_lt] at q; omega) h.2
  exact (pk_charN (by omega)).1
theorem mm_narby {v : Int32} (h : 0 ≤ v ∧ v ≤ 1) : narrow .byte (.int v) = .int v := by
  obtain ⟨j, hj, rfl⟩ := nI_of2 (n := 1) (by decide) (fun q => by have := h.1; rw [Int32.le_iff_toInt_le] at this; rw [Int32.lt_iff_toInt_lt] at q; omega) h.2
  have : j = 0 ∨ j = 1 := by omega
  rcases this with rfl | rfl <;> rfl
theorem gx_cret (X : mm_C p R s m args meth c cc nL own D cA adr N SS) (pc : Nat) {v : Int32} (hr : meth.sig.returnType = some .char) (hd : decode cc pc = .ok (.ireturn, 1)) : mm_G p l e R s m args below meth c nL D cA adr sh N (mm_Qi D cA adr sh N) μ pc lv [.int v] (mm_rg 0 65535 v (some (v, μ))) := by
  obtain ⟨⟨w0, hx, hb, hml, hown, hts⟩, hlk, hK, hJ, hok, hss, hrc, hrs⟩ := X
  intro H locs ls hP hS hl r μ' hE
  obtain ⟨hz, hE⟩ := mm_rg_some hE
  cases hE
  exact W.zret (v := v) hx hb hr (mm_narc hz) (fun t ht _ => ⟨⟨v, μ, rfl, ⟨rfl, rfl⟩, by show va_P D vwCl _ t.heap; rw [ht]; exact hP⟩, hS.F ht⟩) hS.2.2 hd hlk
theorem gx_bret (X : mm_C p R s m args meth c cc nL own D cA adr N SS) (pc : Nat) {v : Int32} (hr : meth.sig.returnType = some .byte) (hd : decode cc pc = .ok (.ireturn, 1)) : mm_G p l e R s m args below meth c nL D cA adr sh N (mm_Qi D cA adr sh N) μ pc lv [.int v] (mm_rg 0 1 v (some (v, μ))) := by
  obtain ⟨⟨w0, hx, hb, hml, hown, hts⟩, hlk, hK, hJ, hok, hss, hrc, hrs⟩ := X
  intro H locs ls hP hS hl r μ' hE
  obtain ⟨hz, hE⟩ := mm_rg_some hE
  cases hE
  exact W.zret (v := v) hx hb hr (mm_narby hz) (fun t ht _ => ⟨⟨v, μ, rfl, ⟨rfl, rfl⟩, by show va_P D vwCl _ t.heap; rw [ht]; exact hP⟩, hS.F ht⟩) hS.2.2 hd hlk
theorem gx_vret (X : mm_C p R s m args meth c cc nL own D cA adr N SS) (pc : Nat) (hr : meth.sig.returnType = none) (hd : decode cc pc = .ok (.return_, 1)) : mm_G p l e R s m args below meth c nL D cA adr sh N (mm_Qv D cA adr sh N) μ pc lv [] (some (0, μ)) := by
  obtain ⟨⟨w0, hx, hb, hml, hown, hts⟩, hlk, hK, hJ, hok, hss, hrc, hrs⟩ := X
  intro H locs ls hP hS hl r μ' hE
  cases hE
  exact W.vret hx hb hr (fun t ht _ => ⟨⟨μ, rfl, rfl, by show va_P D vwCl _ t.heap; rw [ht]; exact hP⟩, hS.F ht⟩) hS.2.2 hd hlk
theorem mm_blind (hok : mm_Ok (mm_A adr N) SS) {vs : List Value} : FrameBlind (va_Pc vs (mm_Pre D cA adr sh N SS μ)) := fun a U g mk q => by
  obtain ⟨q0, qP, qK, qS⟩ := q
  exact ⟨q0, qP, va_K.moved (u := U) (U := U.calling g mk a) (Vm.Alike.refl U.vm) qK, hok.2 U g mk a qS⟩
theorem mm_preU {H : Heap} {locs : List Loc} (hK : va_K D vwCl (mm_ty cA) s) (hok : mm_Ok (mm_A adr N) SS) (hss : SS s s.heap) (hS : va_S (mm_A adr N) s.heap H locs) (hP : va_P D vwCl (mm_ws cA adr sh N μ) H) {vs : List Value} : ∀ U : State, U.heap = H → s.WarmedH U.vm → va_Pc vs (mm_Pre D cA adr sh N SS μ) vs.toArray U := fun U hU hW => ⟨rfl, by rw [hU]; exact hP, va_K.moved hW.alike hK, by rw [hU]; exact hok.1 s U H locs hW hS hss⟩
theorem gx_calliV (X : mm_C p R s m args meth c cc nL own D cA adr N SS) (pc pc' k : Nat) {rest As : List Value} {y : MethodName} {bytes : ByteArray} {maxL n index : Nat} {ret : Option FieldType} {rm : Room} {o : Aa} {f : Int32 → Mm → Aa} {C : String} {T : u_T} {ci n9 : Nat} {fs : List (Option Nat)} (hM : mm_Mi l D cA adr sh N SS y bytes maxL ret rm (.ref (adr k) :: As) μ o) (hk : k < N) (hs : sh k = .inr (.inr (ci, fs))) (hc : vwCl[ci]? = some (C, T, n9)) (hcode : Cond.code y bytes maxL ret ∈ mm_TB) (hlk1 : Cond.methodLink own index y ∈ mm_TB) (hins : Cond.instanceMethod y ∈ mm_TB) (hsel : Cond.selects C y y ∈ mm_TB) (hini : Cond.initialized C ∈ mm_TB) (hyc : y.cls = C) (hd0 : y.cls ≠ "java/lang/invoke/MethodHandle" ∧ y.cls ≠ "java/lang/invoke/VarHandle" ∧ (parseMethodDescriptor y.desc).map (fun d => d.parameters.length) = some n) (hR : rm.frames + 1 ≤ R.frames ∧ 8 + (maxL + 11) + rm.locals ≤ R.locals) (hrm : rm.cells = 0 ∧ rm.slots = 0) (hn : As.length = n) (hst : st = As.reverse ++ .ref (adr k) :: rest) (hrs2 : (rest.map fun v => v.category).sum ≤ 8) (hd : decode cc pc = .ok (.invokevirtual index, 3)) (hp : pc + 3 = pc') (kk : ∀ (r : Int32) (μ' : Mm), mm_G p l e R s m args below meth c nL D cA adr sh N Qf μ' pc' lv (.int r :: rest) (f r μ')) : mm_G p l e R s m args below meth c nL D cA adr sh N Qf μ pc lv st (mm_cl o f) := by
  obtain ⟨⟨w0, hx, hb, hml, hown, hts⟩, hlk, hK, hJ, hok, hss, hrc, hrs⟩ := X
  intro H locs ls hP hS hl r μ' hE
  subst hp
  subst hst
  subst hyc
  obtain ⟨r2, μ2, ho, hE2⟩ := mm_cl_some hE
  have he : (mm_ws cA adr sh N μ)[k]? = some (adr k, .inr (ci, mm_fs adr (μ k) fs 0)) := by rw [mm_ws_get hk, hs]; rfl
  refine va_calli (va_runV (C := y.cls) (As := As) (rest := rest) ⟨hx, hb, hml, hown, hts⟩ (hM r2 μ2 ho) ⟨callB_of n hts (mm_good hcode) rfl hrm.1 hrm.2 (hts _ (List.mem_cons_of_mem _ hini)) (hts _ (List.mem_cons_of_mem _ hlk1)) hd0 hR, hts _ (List.mem_cons_of_mem _ hins), hts _ (List.mem_cons_of_mem _ hsel)⟩ ⟨mm_blind hok, va_recv hK hP hc he, mm_preU hK hok hss hS hP⟩ rfl hn hl.1 rfl (lv_room hrs2) hd ⟨Nat.zero_le _, Nat.zero_le _⟩) hS (fun q _ h => h) (fun q h => h) (fun r1 u t H1 locs1 ht _ hw hB _ _ hS1 => ?_)
  obtain ⟨rfl, rfl⟩ := hw
  have hP1 : va_P D vwCl (mm_ws cA adr sh N u) H1 := by rw [← ht]; exact hB
  exact kk _ u H1 locs1 ls hP1 hS1 hl r μ' hE2
theorem gx_calliS (X : mm_C p R s m args meth c cc nL own D cA adr N SS) (pc pc' : Nat) {rest As : List Value} {y : MethodName} {bytes : ByteArray} {maxL n index : Nat} {ret : Option FieldType} {rm : Room} {o : Aa} {f : Int32 → Mm → Aa} (hM : mm_Mi l D cA adr sh N SS y bytes maxL ret rm As μ o) (hcode : Cond.code y bytes maxL ret ∈ mm_TB) (hlk1 : Cond.methodLink own index y ∈ mm_TB) (hstc : Cond.static y ∈ mm_TB) (hini : Cond.initialized y.cls ∈ mm_TB) (hd0 : y.cls ≠ "java/lang/invoke/MethodHandle" ∧ y.cls ≠ "java/lang/invoke/VarHandle" ∧ (parseMethodDescriptor y.desc).map (fun d => d.parameters.length) = some n) (hR : rm.frames + 1 ≤ R.frames ∧ 8 + (maxL + 11) + rm.locals ≤ R.locals) (hrm : rm.cells = 0 ∧ rm.slots = 0) (hn : As.length = n) (hst : st = As.reverse ++ rest) (hrs2 : (rest.map fun v => v.category).sum ≤ 8) (hd : decode cc pc = .ok (.invokestatic index, 3)) (hp : pc + 3 = pc') (kk : ∀ (r : Int32) (μ' : Mm), mm_G p l e R s m args below meth c nL D cA adr sh N Qf μ' pc' lv (.int r :: rest) (f r μ')) : mm_G p l e R s m args below meth c nL D cA adr sh N Qf μ pc lv st (mm_cl o f) := by
  obtain ⟨⟨w0, hx, hb, hml, hown, hts⟩, hlk, hK, hJ, hok, hss, hrc, hrs⟩ := X
  intro H locs ls hP hS hl r μ' hE
  subst hp
  subst hst
  obtain ⟨r2, μ2, ho, hE2⟩ := mm_cl_some hE
  refine va_calli (va_runS (As := As) (rest := rest) ⟨hx, hb, hml, hown, hts⟩ (hM r2 μ2 ho) ⟨callB_of n hts (mm_good hcode) rfl hrm.1 hrm.2 (hts _ (List.mem_cons_of_mem _ hini)) (hts _ (List.mem_cons_of_mem _ hlk1)) hd0 hR, hts _ (List.mem_cons_of_mem _ hstc)⟩ ⟨mm_blind hok, mm_preU hK hok hss hS hP⟩ rfl hn hl.1 rfl (lv_room hrs2) hd ⟨Nat.zero_le _, Nat.zero_le _⟩) hS (fun q _ h => h) (fun q h => h) (fun r1 u t H1 locs1 ht _ hw hB _ _ hS1 => ?_)
  obtain ⟨rfl, rfl⟩ := hw
  have hP1 : va_P D vwCl (mm_ws cA adr sh N u) H1 := by rw [← ht]; exact hB
  exact kk _ u H1 locs1 ls hP1 hS1 hl r μ' hE2
theorem gx_calliN (X : mm_C p R s m args meth c cc nL own D cA adr N SS) (pc pc' : Nat) {host : String} {rest As : List Value} {y : MethodName} {bytes : ByteArray} {maxL n index : Nat} {ret : Option FieldType} {rm : Room} {o : Aa} {f : Int32 → Mm → Aa} (hM : mm_Mi l D cA adr sh N SS y bytes maxL ret rm As μ o) (hcode : Cond.code y bytes maxL ret ∈ mm_TB) (hnw : va_Nw (.methodLinkNest own index y host) s) (hstc : Cond.static y ∈ mm_TB) (hini : Cond.initialized y.cls ∈ mm_TB) (hd0 : y.cls ≠ "java/lang/invoke/MethodHandle" ∧ y.cls ≠ "java/lang/invoke/VarHandle" ∧ (parseMethodDescriptor y.desc).map (fun d => d.parameters.length) = some n) (hR : rm.frames + 1 ≤ R.frames ∧ 8 + (maxL + 11) + rm.locals ≤ R.locals) (hrm : rm.cells = 0 ∧ rm.slots = 0) (hn : As.length = n) (hst : st = As.reverse ++ rest) (hrs2 : (rest.map fun v => v.category).sum ≤ 8) (hd : decode cc pc = .ok (.invokestatic index, 3)) (hp : pc + 3 = pc') (kk : ∀ (r : Int32) (μ' : Mm), mm_G p l e R s m args below meth c nL D cA adr sh N Qf μ' pc' lv (.int r :: rest) (f r μ')) : mm_G p l e R s m args below meth c nL D cA adr sh N Qf μ pc lv st (mm_cl o f) := by
  obtain ⟨⟨w0, hx, hb, hml, hown, hts⟩, hlk, hK, hJ, hok, hss, hrc, hrs⟩ := X
  intro H locs ls hP hS hl r μ' hE
  subst hp
  subst hst
  obtain ⟨r2, μ2, ho, hE2⟩ := mm_cl_some hE
  refine va_calli (va_runSN (As := As) (rest := rest) ⟨hx, hb, hml, hown, hts⟩ (hM r2 μ2 ho) ⟨va_cnB n hts (mm_good hcode) rfl hrm.1 hrm.2 hnw (hts _ (List.mem_cons_of_mem _ hini)) hd0 hR, hts _ (List.mem_cons_of_mem _ hstc), trivial⟩ ⟨mm_blind hok, mm_preU hK hok hss hS hP⟩ rfl hn hl.1 rfl (lv_room hrs2) hd ⟨Nat.zero_le _, Nat.zero_le _⟩) hS (fun q _ h => h) (fun q h => h) (fun r1 u t H1 locs1 ht _ hw hB _ _ hS1 => ?_)
  obtain ⟨rfl, rfl⟩ := hw
  have hP1 : va_P D vwCl (mm_ws cA adr sh N u) H1 := by rw [← ht]; exact hB
  exact kk _ u H1 locs1 ls hP1 hS1 hl r μ' hE2
theorem gx_callvV (X : mm_C p R s m args meth c cc nL own D cA adr N SS) (pc pc' k : Nat) {rest As : List Value} {y : MethodName} {bytes : ByteArray} {maxL n index : Nat} {ret : Option FieldType} {rm : Room} {o : Aa} {f : Int32 → Mm → Aa} {C : String} {T : u_T} {ci n9 : Nat} {fs : List (Option Nat)} (hM : mm_Mv l D cA adr sh N SS y bytes maxL ret rm (.ref (adr k) :: As) μ o) (hk : k < N) (hs : sh k = .inr (.inr (ci, fs))) (hc : vwCl[ci]? = some (C, T, n9)) (hcode : Cond.code y bytes maxL ret ∈ mm_TB) (hlk1 : Cond.methodLink own index y ∈ mm_TB) (hins : Cond.instanceMethod y ∈ mm_TB) (hsel : Cond.selects C y y ∈ mm_TB) (hini : Cond.initialized C ∈ mm_TB) (hyc : y.cls = C) (hd0 : y.cls ≠ "java/lang/invoke/MethodHandle" ∧ y.cls ≠ "java/lang/invoke/VarHandle" ∧ (parseMethodDescriptor y.desc).map (fun d => d.parameters.length) = some n) (hR : rm.frames + 1 ≤ R.frames ∧ 8 + (maxL + 11) + rm.locals ≤ R.locals) (hrm : rm.cells = 0 ∧ rm.slots = 0) (hn : As.length = n) (hst : st = As.reverse ++ .ref (adr k) :: rest) (hrs2 : (rest.map fun v => v.category).sum ≤ 8) (hd : decode cc pc = .ok (.invokevirtual index, 3)) (hp : pc + 3 = pc') (kk : ∀ (r : Int32) (μ' : Mm), mm_G p l e R s m args below meth c nL D cA adr sh N Qf μ' pc' lv (rest) (f r μ')) : mm_G p l e R s m args below meth c nL D cA adr sh N Qf μ pc lv st (mm_cl o f) := by
  obtain ⟨⟨w0, hx, hb, hml, hown, hts⟩, hlk, hK, hJ, hok, hss, hrc, hrs⟩ := X
  intro H locs ls hP hS hl r μ' hE
  subst hp
  subst hst
  subst hyc
  obtain ⟨r2, μ2, ho, hE2⟩ := mm_cl_some hE
  have he : (mm_ws cA adr sh N μ)[k]? = some (adr k, .inr (ci, mm_fs adr (μ k) fs 0)) := by rw [mm_ws_get hk, hs]; rfl
  refine va_callv (va_runV (C := y.cls) (As := As) (rest := rest) ⟨hx, hb, hml, hown, hts⟩ (hM r2 μ2 ho) ⟨callB_of n hts (mm_good hcode) rfl hrm.1 hrm.2 (hts _ (List.mem_cons_of_mem _ hini)) (hts _ (List.mem_cons_of_mem _ hlk1)) hd0 hR, hts _ (List.mem_cons_of_mem _ hins), hts _ (List.mem_cons_of_mem _ hsel)⟩ ⟨mm_blind hok, va_recv hK hP hc he, mm_preU hK hok hss hS hP⟩ rfl hn hl.1 rfl (lv_room hrs2) hd ⟨Nat.zero_le _, Nat.zero_le _⟩) hS (fun q _ h => h) (fun q h => h) (fun u t H1 locs1 ht _ hw hB _ _ hS1 => ?_)
  cases hw
  have hP1 : va_P D vwCl (mm_ws cA adr sh N μ2) H1 := by rw [← ht]; exact hB
  exact kk _ μ2 H1 locs1 ls hP1 hS1 hl r μ' hE2
theorem gx_callvS (X : mm_C p R s m args meth c cc nL own D cA adr N SS) (pc pc' : Nat) {rest As : List Value} {y : MethodName} {bytes : ByteArray} {maxL n index : Nat} {ret : Option FieldType} {rm : Room} {o : Aa} {f : Int32 → Mm → Aa} (hM : mm_Mv l D cA adr sh N SS y bytes maxL ret rm As μ o) (hcode : Cond.code y bytes maxL ret ∈ mm_TB) (hlk1 : Cond.methodLink own index y ∈ mm_TB) (hstc : Cond.static y ∈ mm_TB) (hini : Cond.initialized y.cls ∈ mm_TB) (hd0 : y.cls ≠ "java/lang/invoke/MethodHandle" ∧ y.cls ≠ "java/lang/invoke/VarHandle" ∧ (parseMethodDescriptor y.desc).map (fun d => d.parameters.length) = some n) (hR : rm.frames + 1 ≤ R.frames ∧ 8 + (maxL + 11) + rm.locals ≤ R.locals) (hrm : rm.cells = 0 ∧ rm.slots = 0) (hn : As.length = n) (hst : st = As.reverse ++ rest) (hrs2 : (rest.map fun v => v.category).sum ≤ 8) (hd : decode cc pc = .ok (.invokestatic index, 3)) (hp : pc + 3 = pc') (kk : ∀ (r : Int32) (μ' : Mm), mm_G p l e R s m args below meth c nL D cA adr sh N Qf μ' pc' lv (rest) (f r μ')) : mm_G p l e R s m args below meth c nL D cA adr sh N Qf μ pc lv st (mm_cl o f) := by
  obtain ⟨⟨w0, hx, hb, hml, hown, hts⟩, hlk, hK, hJ, hok, hss, hrc, hrs⟩ := X
  intro H locs ls hP hS hl r μ' hE
  subst hp
  subst hst
  obtain ⟨r2, μ2, ho, hE2⟩ := mm_cl_some hE
  refine va_callv (va_runS (As := As) (rest := rest) ⟨hx, hb, hml, hown, hts⟩ (hM r2 μ2 ho) ⟨callB_of n hts (mm_good hcode) rfl hrm.1 hrm.2 (hts _ (List.mem_cons_of_mem _ hini)) (hts _ (List.mem_cons_of_mem _ hlk1)) hd0 hR, hts _ (List.mem_cons_of_mem _ hstc)⟩ ⟨mm_blind hok, mm_preU hK hok hss hS hP⟩ rfl hn hl.1 rfl (lv_room hrs2) hd ⟨Nat.zero_le _, Nat.zero_le _⟩) hS (fun q _ h => h) (fun q h => h) (fun u t H1 locs1 ht _ hw hB _ _ hS1 => ?_)
  cases hw
  have hP1 : va_P D vwCl (mm_ws cA adr sh N μ2) H1 := by rw [← ht]; exact hB
  exact kk _ μ2 H1 locs1 ls hP1 hS1 hl r μ' hE2
theorem gx_callvN (X : mm_C p R s m args meth c cc nL own D cA adr N SS) (pc pc' : Nat) {host : String} {rest As : List Value} {y : MethodName} {bytes : ByteArray} {maxL n index : Nat} {ret : Option FieldType} {rm : Room} {o : Aa} {f : Int32 → Mm → Aa} (hM : mm_Mv l D cA adr sh N SS y bytes maxL ret rm As μ o) (hcode : Cond.code y bytes maxL ret ∈ mm_TB) (hnw : va_Nw (.methodLinkNest own index y host) s) (hstc : Cond.static y ∈ mm_TB) (hini : Cond.initialized y.cls ∈ mm_TB) (hd0 : y.cls ≠ "java/lang/invoke/MethodHandle" ∧ y.cls ≠ "java/lang/invoke/VarHandle" ∧ (parseMethodDescriptor y.desc).map (fun d => d.parameters.length) = some n) (hR : rm.frames + 1 ≤ R.frames ∧ 8 + (maxL + 11) + rm.locals ≤ R.locals) (hrm : rm.cells = 0 ∧ rm.slots = 0) (hn : As.length = n) (hst : st = As.reverse ++ rest) (hrs2 : (rest.map fun v => v.category).sum ≤ 8) (hd : decode cc pc = .ok (.invokestatic index, 3)) (hp : pc + 3 = pc') (kk : ∀ (r : Int32) (μ' : Mm), mm_G p l e R s m args below meth c nL D cA adr sh N Qf μ' pc' lv (rest) (f r μ')) : mm_G p l e R s m args below meth c nL D cA adr sh N Qf μ pc lv st (mm_cl o f) := by
  obtain ⟨⟨w0, hx, hb, hml, hown, hts⟩, hlk, hK, hJ, hok, hss, hrc, hrs⟩ := X
  intro H locs ls hP hS hl r μ' hE
  subst hp
  subst hst
  obtain ⟨r2, μ2, ho, hE2⟩ := mm_cl_some hE
  refine va_callv (va_runSN (As := As) (rest := rest) ⟨hx, hb, hml, hown, hts⟩ (hM r2 μ2 ho) ⟨va_cnB n hts (mm_good hcode) rfl hrm.1 hrm.2 hnw (hts _ (List.mem_cons_of_mem _ hini)) hd0 hR, hts _ (List.mem_cons_of_mem _ hstc), trivial⟩ ⟨mm_blind hok, mm_preU hK hok hss hS hP⟩ rfl hn hl.1 rfl (lv_room hrs2) hd ⟨Nat.zero_le _, Nat.zero_le _⟩) hS (fun q _ h => h) (fun q h => h) (fun u t H1 locs1 ht _ hw hB _ _ hS1 => ?_)
  cases hw
  have hP1 : va_P D vwCl (mm_ws cA adr sh N μ2) H1 := by rw [← ht]; exact hB
  exact kk _ μ2 H1 locs1 ls hP1 hS1 hl r μ' hE2
end GRW
theorem mm_entryi {l : Launch} {D : va_G} {cA : Nat → ClassId} {adr : Nat → Nat} {sh : Nat → Sh} {N : Nat} {SS : State → Heap → Prop} {y : MethodName} {cc : ByteArray} {nL : Nat} {ret : Option FieldType} {rm : Room} {vs : List Value} {μ : Mm} {o : Aa} (hJ : mm_J adr N) (hok : mm_Ok (mm_A adr N) SS) (hy : plainName y.cls = true) (hlen : (lg_sl vs).length ≤ nL) (hrm : rm.cells = 0 ∧ rm.slots = 0)
    (h : ∀ (p : Program) (e : Env) (s : State) (m : MethodId) (below : List Frame) (meth : Method) (c : Code), mm_C p rm s m vs.toArray meth c cc nL y.cls D cA adr N SS → meth.sig.returnType = ret → mm_G p l e rm s m vs.toArray below meth c nL D cA adr sh N (mm_Qi D cA adr sh N) μ 0 (lv_args 0 vs) [] o) : mm_Mi l D cA adr sh N SS y cc nL ret rm vs μ o := by
  intro r μ' ho
  refine Met.ofW (cc := cc) (maxL := nL) (ret := ret) hy rfl ?_
  intro p e s m args below meth c s₁ B hml hv
  obtain ⟨rfl, hP, hK, hss⟩ := hv
  rw [lg_entry_eq]
  exact h p e s m below meth c ⟨⟨Cond.code y cc nL ret, B.exec, B.bytes, hml, findClass_of_methodNamed B.named, atoms_spec (ws := Cond.code y cc nL ret :: mm_TB) B.pre⟩, B.notSynchronized, hK, hJ, hok, hss, hrm.1, hrm.2⟩ B.returns s.heap [] _ hP va_S.rf (lv_entry vs hlen) r μ' ho
theorem mm_entryv {l : Launch} {D : va_G} {cA : Nat → ClassId} {adr : Nat → Nat} {sh : Nat → Sh} {N : Nat} {SS : State → Heap → Prop} {y : MethodName} {cc : ByteArray} {nL : Nat} {ret : Option FieldType} {rm : Room} {vs : List Value} {μ : Mm} {o : Aa} (hJ : mm_J adr N) (hok : mm_Ok (mm_A adr N) SS) (hy : plainName y.cls = true) (hlen : (lg_sl vs).length ≤ nL) (hrm : rm.cells = 0 ∧ rm.slots = 0)
    (h : ∀ (p : Program) (e : Env) (s : State) (m : MethodId) (below : List Frame) (meth : Method) (c : Code), mm_C p rm s m vs.toArray meth c cc nL y.cls D cA adr N SS → meth.sig.returnType = ret → mm_G p l e rm s m vs.toArray below meth c nL D cA adr sh N (mm_Qv D cA adr sh N) μ 0 (lv_args 0 vs) [] o) : mm_Mv l D cA adr sh N SS y cc nL ret rm vs μ o := by
  intro r μ' ho
  refine Met.ofW (cc := cc) (maxL := nL) (ret := ret) hy rfl ?_
  intro p e s m args below meth c s₁ B hml hv
  obtain ⟨rfl, hP, hK, hss⟩ := hv
  rw [lg_entry_eq]
  exact h p e s m below meth c ⟨⟨Cond.code y cc nL ret, B.exec, B.bytes, hml, findClass_of_methodNamed B.named, atoms_spec (ws := Cond.code y cc nL ret :: mm_TB) B.pre⟩, B.notSynchronized, hK, hJ, hok, hss, hrm.1, hrm.2⟩ B.returns s.heap [] _ hP va_S.rf (lv_entry vs hlen) r μ' ho
