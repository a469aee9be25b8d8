def sXl : List Sh := [.inr (.inr (6, [some 1, some 14, none, some 27, some 29, some 30, some 44, some 48])), .inr (.inr (3, [none, none, some 2, some 3])), .inl 6, .inr (.inl (3, 10, 4)), .inl 7, .inl 7, .inl 7, .inl 7, .inl 7, .inl 7, .inl 7, .inl 7, .inl 7, .inl 7, .inr (.inr (3, [none, none, some 15, some 16])), .inl 6, .inr (.inl (3, 10, 17)), .inl 7, .inl 7, .inl 7, .inl 7, .inl 7, .inl 7, .inl 7, .inl 7, .inl 7, .inl 7, .inr (.inr (4, [none, none, some 28])), .inl 80, .inl 30, .inr (.inr (0, [some 31, some 32, none, none, none, none, none, none, some 33])), .inr (.inl (1, 10, 34)), .inl 6, .inl 2, .inr (.inr (5, [none, none, none, none, none, none, none, none, none, none, none, none, none, none, none, none, none, none])), .inr (.inr (5, [none, none, none, none, none, none, none, none, none, none, none, none, none, none, none, none, none, none])), .inr (.inr (5, [none, none, none, none, none, none, none, none, none, none, none, none, none, none, none, none, none, none])), .inr (.inr (5, [none, none, none, none, none, none, none, none, none, none, none, none, none, none, none, none, none, none])), .inr (.inr (5, [none, none, none, none, none, none, none, none, none, none, none, none, none, none, none, none, none, none])), .inr (.inr (5, [none, none, none, none, none, none, none, none, none, none, none, none, none, none, none, none, none, none])), .inr (.inr (5, [none, none, none, none, none, none, none, none, none, none, none, none, none, none, none, none, none, none])), .inr (.inr (5, [none, none, none, none, none, none, none, none, none, none, none, none, none, none, none, none, none, none])), .inr (.inr (5, [none, none, none, none, none, none, none, none, none, none, none, none, none, none, none, none, none, none])), .inr (.inr (5, [none, none, none, none, none, none, none, none, none, none, none, none, none, none, none, none, none, none])), .inr (.inr (1, [none, some 45, none, none, some 46, some 47])), .inl 6, .inl 6, .inl 6, .inr (.inl (2, 4, 49)), .inr (.inr (2, [none, none, some 53])), .inr (.inr (2, [none, none, some 54])), .inr (.inr (2, [none, none, some 55])), .inr (.inr (2, [none, none, some 56])), .inl 24, .inl 24, .inl 24, .inl 24]
abbrev NX : Nat := 57
def sX (k : Nat) : Sh := sXl.getD k (.inl 0)
def sMl : List Sh := [.inr (.inr (7, [some 1, none, some 2, none, some 3, none, none, none, some 4, some 5, some 6, some 7, some 8, some 9, some 10, some 11, some 12, some 13, some 14, some 15, some 16, some 17, some 18, none, none, none, none, none, some 19, none, some 20, some 21, some 22, none, none, none, some 23, some 24, none, none, some 25, some 26, some 27])), .inl 70, .inl 6, .inl 80, .inl 30, .inl 10, .inl 10, .inl 10, .inl 10, .inl 10, .inl 10, .inl 10, .inl 10, .inl 10, .inl 10, .inl 10, .inl 10, .inl 10, .inl 2, .inl 6, .inl 6, .inl 6, .inl 6, .inl 70, .inl 6, .inl 4, .inl 4, .inl 96]
abbrev NM : Nat := 28
def sM (k : Nat) : Sh := sMl.getD k (.inl 0)
abbrev shW : Sh := .inr (.inr (5, [none, none, none, none, none, none, none, none, none, none, none, none, none, none, none, none, none, none]))
theorem sX_w {i : Int32} (h : vp_in i 10) : sX (34 + i.toNatClampNeg) = shW := by
  have := mm_in h
  have key : ∀ j, j < 10 → sX (34 + j) = shW := fun j hj => match j, hj with
    | 0, _ => rfl
    | 1, _ => rfl
    | 2, _ => rfl
    | 3, _ => rfl
    | 4, _ => rfl
    | 5, _ => rfl
    | 6, _ => rfl
    | 7, _ => rfl
    | 8, _ => rfl
    | 9, _ => rfl
    | j + 10, h9 => absurd h9 (by omega)
  exact key _ this
theorem sX_wl {i : Int32} (h : vp_in i 10) : 34 + i.toNatClampNeg < NX := by
  have := mm_in h
  show _ < 57
  omega
theorem sX_s {i : Int32} (h : vp_in i 4) : sX (49 + i.toNatClampNeg) = .inr (.inr (2, [none, none, some (53 + i.toNatClampNeg)])) := by
  have := mm_in h
  have key : ∀ j, j < 4 → sX (49 + j) = .inr (.inr (2, [none, none, some (53 + j)])) := fun j hj => match j, hj with
    | 0, _ => rfl
    | 1, _ => rfl
    | 2, _ => rfl
    | 3, _ => rfl
    | j + 4, h9 => absurd h9 (by omega)
  exact key _ this
theorem sX_sl {i : Int32} (h : vp_in i 4) : 49 + i.toNatClampNeg < NX := by
  have := mm_in h
  show _ < 57
  omega
theorem sX_i {i : Int32} (h : vp_in i 4) : sX (53 + i.toNatClampNeg) = .inl 24 := by
  have := mm_in h
  have key : ∀ j, j < 4 → sX (53 + j) = .inl 24 := fun j hj => match j, hj with
    | 0, _ => rfl
    | 1, _ => rfl
    | 2, _ => rfl
    | 3, _ => rfl
    | j + 4, h9 => absurd h9 (by omega)
  exact key _ this
theorem sX_il {i : Int32} (h : vp_in i 4) : 53 + i.toNatClampNeg < NX := by
  have := mm_in h
  show _ < 57
  omega
theorem sX_f {i : Int32} (h : vp_in i 10) : sX (4 + i.toNatClampNeg) = .inl 7 := by
  have := mm_in h
  have key : ∀ j, j < 10 → sX (4 + j) = .inl 7 := fun j hj => match j, hj with
    | 0, _ => rfl
    | 1, _ => rfl
    | 2, _ => rfl
    | 3, _ => rfl
    | 4, _ => rfl
    | 5, _ => rfl
    | 6, _ => rfl
    | 7, _ => rfl
    | 8, _ => rfl
    | 9, _ => rfl
    | j + 10, h9 => absurd h9 (by omega)
  exact key _ this
theorem sX_fl {i : Int32} (h : vp_in i 10) : 4 + i.toNatClampNeg < NX := by
  have := mm_in h
  show _ < 57
  omega
theorem sX_g {i : Int32} (h : vp_in i 10) : sX (17 + i.toNatClampNeg) = .inl 7 := by
  have := mm_in h
  have key : ∀ j, j < 10 → sX (17 + j) = .inl 7 := fun j hj => match j, hj with
    | 0, _ => rfl
    | 1, _ => rfl
    | 2, _ => rfl
    | 3, _ => rfl
    | 4, _ => rfl
    | 5, _ => rfl
    | 6, _ => rfl
    | 7, _ => rfl
    | 8, _ => rfl
    | 9, _ => rfl
    | j + 10, h9 => absurd h9 (by omega)
  exact key _ this
theorem sX_gl {i : Int32} (h : vp_in i 10) : 17 + i.toNatClampNeg < NX := by
  have := mm_in h
  show _ < 57
  omega
def mm_stN (k : Nat) : String := ["LAW_FIRST", "LAW_LEAST", "LAW_MOST", "TOLD_LEAST", "TOLD_MOST"].getD k ""
def mm_stV (k : Nat) : List Int32 := [[1, 0, 5, 0, 99, 0], [0, 0, 1, 0, 0, 0], [9, 2, 60, 50, 99, 200], [0, 0, 0, 1, 1, 0], [499, 1, 3, 20, 6, 60]].getD k []
def mm_len : List Nat := [6, 2, 4]
def mm_byt : List (List Int32) := [[103, 99, 119, 110, 114, 102], [110, 115], [119, 114, 108, 115]]
def mm_nsM : List (String × Nat × MethodName) := [(RX3, 36, yX6_isWithin), (RX3, 54, yX6_half), (RX0, 175, yX6_cutUp), (RX5, 66, yX6_half), (RX5, 51, yX6_cutUp), (RX2, 22, yX6_isWithin), (RX6, 21, yX4_init), (RX6, 50, yX2_init)]
def mm_nsF : List (String × Nat × Nat) := [(RX3, 24, 0), (RX3, 40, 3), (RX3, 43, 4), (RX4, 34, 1), (RX4, 37, 2), (RX4, 51, 3), (RX4, 54, 4)]
/-- what the class's methods take as given of the statics: nest links, tables, texts -/
def mm_SX (A : Nat → Prop) (tt sK sV : Nat → Nat) (qv : Value) (U : State) (H : Heap) : Prop :=
  (∀ q ∈ mm_nsM, va_Nw (.methodLinkNest q.1 q.2.1 q.2.2 "PlankBridge") U) ∧ (∀ q ∈ mm_nsF, va_Nw (.fieldLinkNest q.1 q.2.1 "PlankBridge" (mm_stN q.2.2) "[I" "PlankBridge") U) ∧
  (∀ k, k < 5 → va_Z "PlankBridge" (mm_stN k) "[I" (.ref (tt k)) A U H) ∧ (∀ k, k < 5 → va_T .int (tt k) (mm_stV k).length (fun j => .int ((mm_stV k).getD j 0)) A U H) ∧
  (vk_R RX4 26 "gcwnrf" (sK 0) U ∧ vk_R RX4 57 "ns" (sK 1) U ∧ vk_R RX4 63 "wrls" (sK 2) U) ∧ vk_S 3 mm_len mm_byt sK sV A U H ∧ va_Z "java/lang/String" "COMPACT_STRINGS" "Z" (.int 1) A U H ∧ va_Z "jdk/internal/util/Preconditions" "SIOOBE_FORMATTER" "Ljava/util/function/BiFunction;" qv A U H ∧ qv.category = 1
theorem mm_okX {A : Nat → Prop} {tt sK sV : Nat → Nat} {qv : Value} : mm_Ok A (mm_SX A tt sK sV qv) := by
  refine ⟨fun s U H locs hW hS h => ?_, fun U g mk a h => ?_⟩
  · obtain ⟨h1, h2, h3, h4, ⟨h5, h6, h7⟩, h8, h9, h10, h11⟩ := h
    exact ⟨fun q hq => va_Nw.warmM hW (h1 q hq), fun q hq => va_Nw.warmF hW (h2 q hq), fun k hk => va_Z.kept (va_Z.moved hW.alike (h3 k hk)) hS.2.1, fun k hk => va_T.kept (va_T.moved hW.alike (h4 k hk)) hS.2.1, ⟨vk_R.warm hW h5, vk_R.warm hW h6, vk_R.warm hW h7⟩, vk_S.kept (vk_S.moved hW.alike h8) hS.2.1, va_Z.kept (va_Z.moved hW.alike h9) hS.2.1, va_Z.kept (va_Z.moved hW.alike h10) hS.2.1, h11⟩
  · obtain ⟨h1, h2, h3, h4, ⟨h5, h6, h7⟩, h8, h9, h10, h11⟩ := h
    have e : U.vm.Alike (U.calling g mk a).vm := Vm.Alike.refl U.vm
    exact ⟨fun q hq => va_Nw.same rfl (u := U) rfl (h1 q hq), fun q hq => va_Nw.same rfl (u := U) rfl (h2 q hq), fun k hk => va_Z.moved e (h3 k hk), fun k hk => va_T.moved e (h4 k hk), ⟨vk_R.same (u := U) rfl h5, vk_R.same (u := U) rfl h6, vk_R.same (u := U) rfl h7⟩, vk_S.moved e h8, va_Z.moved e h9, va_Z.moved e h10, h11⟩
def mm_SM (_ : State) (_ : Heap) : Prop := True
theorem mm_okM {A : Nat → Prop} : mm_Ok A mm_SM := ⟨fun _ _ _ _ _ _ _ => trivial, fun _ _ _ _ _ => trivial⟩
section GXW
variable {p : Program} {l : Launch} {e : Env} {R : Room} {s : State} {m : MethodId} {args : Array Value} {below : List Frame} {meth : Method} {c : Code} {nL : Nat} {D : va_G} {cA : Nat → ClassId} {adr : Nat → Nat} {sh : Nat → Sh} {N : Nat} {tt sK sV : Nat → Nat} {qv : Value} {Qf : Int32 → Mm → Array Value → State → Outcome → State → Prop} {μ : Mm} {lv : List (Nat × Value)} {st : List Value} {E : Aa} {cc : ByteArray} {own : String}
theorem mm_nest (X : mm_C p R s m args meth c cc nL own D cA adr N (mm_SX (mm_A adr N) tt sK sV qv)) {index : Nat} {y : MethodName} (h : (own, index, y) ∈ mm_nsM) : va_Nw (.methodLinkNest own index y "PlankBridge") s := X.2.2.2.2.2.1.1 _ h
theorem mm_qc (X : mm_C p R s m args meth c cc nL own D cA adr N (mm_SX (mm_A adr N) tt sK sV qv)) : qv.category = 1 := X.2.2.2.2.2.1.2.2.2.2.2.2.2.2
theorem gx_getS (X : mm_C p R s m args meth c cc nL own D cA adr N (mm_SX (mm_A adr N) tt sK sV qv)) (pc pc' k : Nat) {index : Nat} (hk : k < 5) (hw : Cond.fieldLink own index "PlankBridge" (mm_stN k) "[I" ∈ mm_TB) (hd : decode cc pc = .ok (.getstatic index, 3)) (hp : pc + 3 = pc') (kk : mm_G p l e R s m args below meth c nL D cA adr sh N Qf μ pc' lv (.ref (tt k) :: st) E) : mm_G p l e R s m args below meth c nL D cA adr sh N Qf μ pc lv st E := by
  obtain ⟨⟨w0, hx, hb, hml, hown, hts⟩, hlk, hK, hJ, hok, hss, hrc, hrs⟩ := X
  intro H locs ls hP hS hl r μ' hE
  subst hp
  exact va_gets hx hb (hss.2.2.1 k hk) hS hown (hts _ (List.mem_cons_of_mem _ hw)) (fun _ h9 => h9) hd (kk H locs ls hP hS hl r μ' hE)
theorem gx_getSN (X : mm_C p R s m args meth c cc nL own D cA adr N (mm_SX (mm_A adr N) tt sK sV qv)) (pc pc' k : Nat) {index : Nat} (hk : k < 5) (hw : (own, index, k) ∈ mm_nsF) (hd : decode cc pc = .ok (.getstatic index, 3)) (hp : pc + 3 = pc') (kk : mm_G p l e R s m args below meth c nL D cA adr sh N Qf μ pc' lv (.ref (tt k) :: st) E) : mm_G p l e R s m args below meth c nL D cA adr sh N Qf μ pc lv st E := by
  obtain ⟨⟨w0, hx, hb, hml, hown, hts⟩, hlk, hK, hJ, hok, hss, hrc, hrs⟩ := X
  intro H locs ls hP hS hl r μ' hE
  subst hp
  exact va_getsN hx hb (hss.2.2.1 k hk) hS hown (va_Nw.use rfl (hss.2.1 _ hw)) (fun _ h9 => h9) hd (kk H locs ls hP hS hl r μ' hE)
theorem gx_sload (X : mm_C p R s m args meth c cc nL own D cA adr N (mm_SX (mm_A adr N) tt sK sV qv)) (pc pc' k : Nat) {n : Nat} {i : Int32} (hk : k < 5) (hn : (mm_stV k).length = n) (hd : decode cc pc = .ok (.iaload, 1)) (hp : pc + 1 = pc') (kk : mm_G p l e R s m args below meth c nL D cA adr sh N Qf μ pc' lv (.int ((mm_stV k).getD i.toNatClampNeg 0) :: st) E) : mm_G p l e R s m args below meth c nL D cA adr sh N Qf μ pc lv (.int i :: .ref (tt k) :: st) (mm_ck i n E) := by
  obtain ⟨⟨w0, hx, hb, hml, hown, hts⟩, hlk, hK, hJ, hok, hss, hrc, hrs⟩ := X
  intro H locs ls hP hS hl r μ' hE
  subst hp
  subst hn
  obtain ⟨hi, hE⟩ := mm_ck_some hE
  exact va_ti hx hb (hss.2.2.2.1 k hk) hS hi rfl hd (kk H locs ls hP hS hl r μ' hE)
theorem gx_ldcS0 (X : mm_C p R s m args meth c cc nL RX4 D cA adr N (mm_SX (mm_A adr N) tt sK sV qv)) (pc pc' : Nat) (hd : decode cc pc = .ok (.ldc 26, 2)) (hp : pc + 2 = pc') (kk : mm_G p l e R s m args below meth c nL D cA adr sh N Qf μ pc' lv (.ref (sK 0) :: st) E) : mm_G p l e R s m args below meth c nL D cA adr sh N Qf μ pc lv st E := by
  obtain ⟨⟨w0, hx, hb, hml, hown, hts⟩, hlk, hK, hJ, hok, hss, hrc, hrs⟩ := X
  intro H locs ls hP hS hl r μ' hE
  subst hp
  exact va_ldcS hx hb hown (hss.2.2.2.2.1.1) hd (kk H locs ls hP hS hl r μ' hE)
theorem gx_ldcS1 (X : mm_C p R s m args meth c cc nL RX4 D cA adr N (mm_SX (mm_A adr N) tt sK sV qv)) (pc pc' : Nat) (hd : decode cc pc = .ok (.ldc 57, 2)) (hp : pc + 2 = pc') (kk : mm_G p l e R s m args below meth c nL D cA adr sh N Qf μ pc' lv (.ref (sK 1) :: st) E) : mm_G p l e R s m args below meth c nL D cA adr sh N Qf μ pc lv st E := by
  obtain ⟨⟨w0, hx, hb, hml, hown, hts⟩, hlk, hK, hJ, hok, hss, hrc, hrs⟩ := X
  intro H locs ls hP hS hl r μ' hE
  subst hp
  exact va_ldcS hx hb hown (hss.2.2.2.2.1.2.1) hd (kk H locs ls hP hS hl r μ' hE)
theorem gx_ldcS2 (X : mm_C p R s m args meth c cc nL RX4 D cA adr N (mm_SX (mm_A adr N) tt sK sV qv)) (pc pc' : Nat) (hd : decode cc pc = .ok (.ldc 63, 2)) (hp : pc + 2 = pc') (kk : mm_G p l e R s m args below meth c nL D cA adr sh N Qf μ pc' lv (.ref (sK 2) :: st) E) : mm_G p l e R s m args below meth c nL D cA adr sh N Qf μ pc lv st E := by
  obtain ⟨⟨w0, hx, hb, hml, hown, hts⟩, hlk, hK, hJ, hok, hss, hrc, hrs⟩ := X
  intro H locs ls hP hS hl r μ' hE
  subst hp
  exact va_ldcS hx hb hown (hss.2.2.2.2.1.2.2) hd (kk H locs ls hP hS hl r μ' hE)
theorem gx_strV (X : mm_C p R s m args meth c cc nL own D cA adr N (mm_SX (mm_A adr N) tt sK sV qv)) (pc pc' i : Nat) {index : Nat} (hi : i < 3) (hw : Cond.fieldLink own index "java/lang/String" "value" "[B" ∈ mm_TB) (hd : decode cc pc = .ok (.getfield index, 3)) (hp : pc + 3 = pc') (kk : mm_G p l e R s m args below meth c nL D cA adr sh N Qf μ pc' lv (.ref (sV i) :: st) E) : mm_G p l e R s m args below meth c nL D cA adr sh N Qf μ pc lv (.ref (sK i) :: st) E := by
  obtain ⟨⟨w0, hx, hb, hml, hown, hts⟩, hlk, hK, hJ, hok, hss, hrc, hrs⟩ := X
  intro H locs ls hP hS hl r μ' hE
  subst hp
  exact vk_getf hx hb (hss.2.2.2.2.2.1.1 i hi).2.2.1 hS hown (hts _ (List.mem_cons_of_mem _ hw)) (fun _ h9 => h9) hd (kk H locs ls hP hS hl r μ' hE)
theorem gx_strC (X : mm_C p R s m args meth c cc nL own D cA adr N (mm_SX (mm_A adr N) tt sK sV qv)) (pc pc' i : Nat) {index : Nat} (hi : i < 3) (hw : Cond.fieldLink own index "java/lang/String" "coder" "B" ∈ mm_TB) (hd : decode cc pc = .ok (.getfield index, 3)) (hp : pc + 3 = pc') (kk : mm_G p l e R s m args below meth c nL D cA adr sh N Qf μ pc' lv (.int 0 :: st) E) : mm_G p l e R s m args below meth c nL D cA adr sh N Qf μ pc lv (.ref (sK i) :: st) E := by
  obtain ⟨⟨w0, hx, hb, hml, hown, hts⟩, hlk, hK, hJ, hok, hss, hrc, hrs⟩ := X
  intro H locs ls hP hS hl r μ' hE
  subst hp
  exact vk_getf hx hb (hss.2.2.2.2.2.1.1 i hi).2.1 hS hown (hts _ (List.mem_cons_of_mem _ hw)) (fun _ h9 => h9) hd (kk H locs ls hP hS hl r μ' hE)
theorem gx_getCS (X : mm_C p R s m args meth c cc nL own D cA adr N (mm_SX (mm_A adr N) tt sK sV qv)) (pc pc' : Nat) {index : Nat} (hw : Cond.fieldLink own index "java/lang/String" "COMPACT_STRINGS" "Z" ∈ mm_TB) (hd : decode cc pc = .ok (.getstatic index, 3)) (hp : pc + 3 = pc') (kk : mm_G p l e R s m args below meth c nL D cA adr sh N Qf μ pc' lv (.int 1 :: st) E) : mm_G p l e R s m args below meth c nL D cA adr sh N Qf μ pc lv st E := by
  obtain ⟨⟨w0, hx, hb, hml, hown, hts⟩, hlk, hK, hJ, hok, hss, hrc, hrs⟩ := X
  intro H locs ls hP hS hl r μ' hE
  subst hp
  exact va_gets hx hb hss.2.2.2.2.2.2.1 hS hown (hts _ (List.mem_cons_of_mem _ hw)) (fun _ h9 => h9) hd (kk H locs ls hP hS hl r μ' hE)
theorem gx_getQ (X : mm_C p R s m args meth c cc nL own D cA adr N (mm_SX (mm_A adr N) tt sK sV qv)) (pc pc' : Nat) {index : Nat} (hw : Cond.fieldLink own index "jdk/internal/util/Preconditions" "SIOOBE_FORMATTER" "Ljava/util/function/BiFunction;" ∈ mm_TB) (hd : decode cc pc = .ok (.getstatic index, 3)) (hp : pc + 3 = pc') (kk : mm_G p l e R s m args below meth c nL D cA adr sh N Qf μ pc' lv (qv :: st) E) : mm_G p l e R s m args below meth c nL D cA adr sh N Qf μ pc lv st E := by
  obtain ⟨⟨w0, hx, hb, hml, hown, hts⟩, hlk, hK, hJ, hok, hss, hrc, hrs⟩ := X
  intro H locs ls hP hS hl r μ' hE
  subst hp
  exact va_gets hx hb hss.2.2.2.2.2.2.2.1 hS hown (hts _ (List.mem_cons_of_mem _ hw)) (fun _ h9 => h9) hd (kk H locs ls hP hS hl r μ' hE)
theorem gx_blen (X : mm_C p R s m args meth c cc nL own D cA adr N (mm_SX (mm_A adr N) tt sK sV qv)) (pc pc' i : Nat) (hi : i < 3) (hd : decode cc pc = .ok (.arraylength, 1)) (hp : pc + 1 = pc') (kk : mm_G p l e R s m args below meth c nL D cA adr sh N Qf μ pc' lv (.int (Int32.ofNat (mm_len.getD i 0)) :: st) E) : mm_G p l e R s m args below meth c nL D cA adr sh N Qf μ pc lv (.ref (sV i) :: st) E := by
  obtain ⟨⟨w0, hx, hb, hml, hown, hts⟩, hlk, hK, hJ, hok, hss, hrc, hrs⟩ := X
  intro H locs ls hP hS hl r μ' hE
  subst hp
  exact va_tlen hx hb (hss.2.2.2.2.2.1.1 i hi).2.2.2 hS rfl hd (kk H locs ls hP hS hl r μ' hE)
theorem gx_bald (X : mm_C p R s m args meth c cc nL own D cA adr N (mm_SX (mm_A adr N) tt sK sV qv)) (pc pc' i : Nat) {j : Int32} (hi : i < 3) (hd : decode cc pc = .ok (.baload, 1)) (hp : pc + 1 = pc') (kk : mm_G p l e R s m args below meth c nL D cA adr sh N Qf μ pc' lv (.int ((mm_byt.getD i []).getD j.toNatClampNeg 0) :: st) E) : mm_G p l e R s m args below meth c nL D cA adr sh N Qf μ pc lv (.int j :: .ref (sV i) :: st) (mm_ck j (mm_len.getD i 0) E) := by
  obtain ⟨⟨w0, hx, hb, hml, hown, hts⟩, hlk, hK, hJ, hok, hss, hrc, hrs⟩ := X
  intro H locs ls hP hS hl r μ' hE
  subst hp
  obtain ⟨hj, hE⟩ := mm_ck_some hE
  exact va_tb hx hb (hss.2.2.2.2.2.1.1 i hi).2.2.2 hS hj rfl hd (kk H locs ls hP hS hl r μ' hE)
theorem gx_calliT (X : mm_C p R s m args meth c cc nL own D cA adr N (mm_SX (mm_A adr N) tt sK sV qv)) (pc pc' i : Nat) {rest As : List Value} {y : MethodName} {bytes : ByteArray} {maxL n index : Nat} {ret : Option FieldType} {rm : Room} {o : Aa} {f : Int32 → Mm → Aa} (hM : mm_Mi l D cA adr sh N (mm_SX (mm_A adr N) tt sK sV qv) y bytes maxL ret rm (.ref (sK i) :: As) μ o) (hi : i < 3) (hcode : Cond.code y bytes maxL ret ∈ mm_TB) (hlk1 : Cond.methodLink own index y ∈ mm_TB) (hins : Cond.instanceMethod y ∈ mm_TB) (hsel : Cond.selects RJ0 y y ∈ mm_TB) (hini : Cond.initialized RJ0 ∈ mm_TB) (hyc : y.cls = RJ0) (hd0 : y.cls ≠ "java/lang/invoke/MethodHandle" ∧ y.cls ≠ "java/lang/invoke/VarHandle" ∧ (parseMethodDescriptor y.desc).map (fun d => d.parameters.length) = some n) (hR : rm.frames + 1 ≤ R.frames ∧ 8 + (maxL + 11) + rm.locals ≤ R.locals) (hrm : rm.cells = 0 ∧ rm.slots = 0) (hn : As.length = n) (hst : st = As.reverse ++ .ref (sK i) :: rest) (hrs2 : (rest.map fun v => v.category).sum ≤ 8) (hd : decode cc pc = .ok (.invokevirtual index, 3)) (hp : pc + 3 = pc') (kk : ∀ (r : Int32) (μ' : Mm), mm_G p l e R s m args below meth c nL D cA adr sh N Qf μ' pc' lv (.int r :: rest) (f r μ')) : mm_G p l e R s m args below meth c nL D cA adr sh N Qf μ pc lv st (mm_cl o f) := by
  obtain ⟨⟨w0, hx, hb, hml, hown, hts⟩, hlk, hK, hJ, hok, hss, hrc, hrs⟩ := X
  intro H locs ls hP hS hl r μ' hE
  subst hp
  subst hst
  obtain ⟨r2, μ2, ho, hE2⟩ := mm_cl_some hE
  refine va_calli (va_runV (C := RJ0) (As := As) (rest := rest) ⟨hx, hb, hml, hown, hts⟩ (hM r2 μ2 ho) ⟨callB_of n hts (mm_good hcode) rfl hrm.1 hrm.2 (by rw [hyc]; exact hts _ (List.mem_cons_of_mem _ hini)) (hts _ (List.mem_cons_of_mem _ hlk1)) hd0 hR, hts _ (List.mem_cons_of_mem _ hins), hts _ (List.mem_cons_of_mem _ hsel)⟩ ⟨mm_blind hok, vk_recv hss.2.2.2.2.2.1 hi hS, mm_preU hK hok hss hS hP⟩ rfl hn hl.1 rfl (lv_room hrs2) hd ⟨Nat.zero_le _, Nat.zero_le _⟩) hS (fun q _ h => h) (fun q h => h) (fun r1 u t H1 locs1 ht _ hw hB _ _ hS1 => ?_)
  obtain ⟨rfl, rfl⟩ := hw
  have hP1 : va_P D vwCl (mm_ws cA adr sh N u) H1 := by rw [← ht]; exact hB
  exact kk _ u H1 locs1 ls hP1 hS1 hl r μ' hE2
end GXW
section GXC
variable {p : Program} {l : Launch} {e : Env} {R : Room} {s : State} {m : MethodId} {args : Array Value} {below : List Frame} {meth : Method} {c : Code} {nL : Nat} {D : va_G} {cA : Nat → ClassId} {adr : Nat → Nat} {sh : Nat → Sh} {N : Nat} {SS : State → Heap → Prop} {Qf : Int32 → Mm → Array Value → State → Outcome → State → Prop} {μ : Mm} {lv : List (Nat × Value)} {st : List Value} {E : Aa} {cc : ByteArray} {own : String}
def mm_ac (sp dp n : Int32) (n0 n1 : Nat) (E : Aa) : Aa := if sp < 0 ∨ dp < 0 ∨ n < 0 ∨ n0 < sp.toNatClampNeg + n.toNatClampNeg ∨ n1 < dp.toNatClampNeg + n.toNatClampNeg then none else E
theorem mm_ac_some {sp dp n : Int32} {n0 n1 : Nat} {E : Aa} {q : Int32 × Mm} (h : mm_ac sp dp n n0 n1 E = some q) : (¬ sp < 0 ∧ ¬ dp < 0 ∧ ¬ n < 0 ∧ sp.toNatClampNeg + n.toNatClampNeg ≤ n0 ∧ dp.toNatClampNeg + n.toNatClampNeg ≤ n1) ∧ E = some q := by
  unfold mm_ac at h
  split at h
  · cases h
  · rename_i h2
    simp only [not_or, Nat.not_lt] at h2
    exact ⟨h2, h⟩
theorem gx_acopy (X : mm_C p R s m args meth c cc nL own D cA adr N SS) (pc pc' k0 k1 : Nat) {index n0 n1 : Nat} {sp dp n : Int32} {f : Mm → Aa} (hk0 : k0 < N) (hk1 : k1 < N) (hs0 : sh k0 = .inl n0) (hs1 : sh k1 = .inl n1) (hw : Cond.methodLink own index arraycopyName ∈ mm_TB) (hf : 1 ≤ R.frames) (hl0 : (st.map fun v => v.category).sum + (nativeFrameWords "java/lang/System" "arraycopy" 5 + 11) ≤ R.locals) (hd : decode cc pc = .ok (.invokestatic index, 3)) (hp : pc + 3 = pc') (kk : ∀ μ1, mm_G p l e R s m args below meth c nL D cA adr sh N Qf μ1 pc' lv st (f μ1)) : mm_G p l e R s m args below meth c nL D cA adr sh N Qf μ pc lv (.int n :: .int dp :: .ref (adr k1) :: .int sp :: .ref (adr k0) :: st) (mm_ac sp dp n n0 n1 (mm_lt (mm_cp μ k0 k1 sp.toNatClampNeg dp.toNatClampNeg n.toNatClampNeg) f)) := by
  obtain ⟨⟨w0, hx, hb, hml, hown, hts⟩, hlk, hK, hJ, hok, hss, hrc, hrs⟩ := X
  intro H locs ls hP hS hl r μ' hE
  subst hp
  obtain ⟨⟨a1, a2, a3, a4, a5⟩, hE⟩ := mm_ac_some hE
  have he0 : (mm_ws cA adr sh N μ)[k0]? = some (adr k0, .inl (cA 0, n0, .inl (μ k0))) := by rw [mm_ws_get hk0, hs0]; rfl
  have he1 : (mm_ws cA adr sh N μ)[k1]? = some (adr k1, .inl (cA 0, n1, .inl (μ k1))) := by rw [mm_ws_get hk1, hs1]; rfl
  refine va_copyi (D := D) hx hb (hml.trans hl.1.symm) hown (hts _ (List.mem_cons_of_mem _ hw)) (hts _ (List.mem_cons_of_mem _ wv_acopy)) (hts _ (List.mem_cons_of_mem _ wt_acopy)) (hts _ (List.mem_cons_of_mem _ wn_J10)) hK hP (mm_ws_D hJ) hS k0 k1 0 0 he0 he1 rfl rfl rfl a1 a2 a3 a4 a5 (fun _ _ => rfl) hf hl0 hd (fun H1 locs1 hP1 _ hS1 => ?_)
  have e1 : (adr k1, (.inl (cA 0, n1, .inl (va_cpy (μ k0) (μ k1) sp.toNatClampNeg dp.toNatClampNeg n.toNatClampNeg)) : va_E)) = (adr k1, mm_cell cA adr (mm_cp μ k0 k1 sp.toNatClampNeg dp.toNatClampNeg n.toNatClampNeg k1) (sh k1)) := by rw [hs1, mm_cp_k]; rfl
  rw [e1, mm_ws_set hk1 (fun a ha => mm_cp_ne _ _ _ _ ha)] at hP1
  exact kk _ H1 locs1 ls hP1 hS1 hl r μ' hE
end GXC
