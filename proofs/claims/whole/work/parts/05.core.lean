/-! memory of a static world: object number, slot -/
abbrev Mm : Type := Nat → Nat → Int32
abbrev Aa : Type := Option (Int32 × Mm)
def mm_wr (μ : Mm) (k j : Nat) (v : Int32) : Mm := fun a b => if a = k ∧ b = j then v else μ a b
def mm_cp (μ : Mm) (k0 k1 sp dp n : Nat) : Mm := fun a b => if a = k1 ∧ (dp ≤ b ∧ b < dp + n) then μ k0 (sp + (b - dp)) else μ a b
/-- the type of an answer, that names the road on (so that simp leaves the road alone) -/
abbrev TyK (β : Type) {γ : Sort _} (_ : γ) : Type := β
def mm_lt {α β : Type} (e : α) (f : α → β) : TyK β f := f e
def mm_cl (o : Aa) (k : Int32 → Mm → Aa) : TyK Aa k := match o with
  | none => none
  | some q => k q.1 q.2
def mm_lk {β : Type} (z : β) (F : β → β) : Nat → β
  | 0 => z
  | n + 1 => F (mm_lk z F n)
def mm_fu : Nat := 4096
theorem mm_cl_some {o : Aa} {k : Int32 → Mm → Aa} {q : Int32 × Mm} (h : mm_cl o k = some q) : ∃ (r : Int32) (μ : Mm), o = some (r, μ) ∧ k r μ = some q := by
  cases o with
  | none => cases h
  | some x => exact ⟨x.1, x.2, rfl, h⟩
theorem mm_wr_k (μ : Mm) (k j : Nat) (v : Int32) : mm_wr μ k j v k = upd (μ k) j v := by
  funext b
  simp [mm_wr, upd]
theorem mm_wr_ne {μ : Mm} {k a : Nat} (j : Nat) (v : Int32) (h : a ≠ k) : mm_wr μ k j v a = μ a := by
  funext b
  simp [mm_wr, h]
theorem mm_cp_k (μ : Mm) (k0 k1 sp dp n : Nat) : mm_cp μ k0 k1 sp dp n k1 = va_cpy (μ k0) (μ k1) sp dp n := by
  funext b
  simp [mm_cp, va_cpy]
theorem mm_cp_ne {μ : Mm} {k1 a : Nat} (k0 sp dp n : Nat) (h : a ≠ k1) : mm_cp μ k0 k1 sp dp n a = μ a := by
  funext b
  simp [mm_cp, h]
/-- a shape: an int row of n; a row of references (its array class's number, its length, its first object); an object (its class's number, its fields: none for a number, some r for object r) -/
abbrev Sh : Type := Nat ⊕ ((Nat × Nat × Nat) ⊕ (Nat × List (Option Nat)))
def mm_fs (adr : Nat → Nat) (f : Nat → Int32) : List (Option Nat) → Nat → List Value
  | [], _ => []
  | none :: l, j => .int (f j) :: mm_fs adr f l (j + 1)
  | some r :: l, j => .ref (adr r) :: mm_fs adr f l (j + 1)
theorem mm_fs_get (adr : Nat → Nat) (f : Nat → Int32) : ∀ (l : List (Option Nat)) (i j : Nat), (mm_fs adr f l i)[j]? = (l[j]?).map (fun o => match o with | none => Value.int (f (i + j)) | some r => Value.ref (adr r))
  | [], i, j => by simp [mm_fs]
  | none :: l, i, 0 => by simp [mm_fs]
  | some r :: l, i, 0 => by simp [mm_fs]
  | none :: l, i, j + 1 => by
    simp only [mm_fs, List.getElem?_cons_succ, mm_fs_get adr f l (i + 1) j]
    rw [show i + 1 + j = i + (j + 1) by omega]
  | some r :: l, i, j + 1 => by
    simp only [mm_fs, List.getElem?_cons_succ, mm_fs_get adr f l (i + 1) j]
    rw [show i + 1 + j = i + (j + 1) by omega]
theorem mm_fs_len (adr : Nat → Nat) (f : Nat → Int32) : ∀ (l : List (Option Nat)) (i : Nat), (mm_fs adr f l i).length = l.length
  | [], _ => rfl
  | none :: l, i => by simp [mm_fs, mm_fs_len adr f l (i + 1)]
  | some r :: l, i => by simp [mm_fs, mm_fs_len adr f l (i + 1)]
theorem mm_fs_set (adr : Nat → Nat) (f : Nat → Int32) (l : List (Option Nat)) (j : Nat) (v : Int32) (h : l[j]? = some none) : (mm_fs adr f l 0).set j (.int v) = mm_fs adr (upd f j v) l 0 := by
  apply List.ext_getElem?
  intro i
  rw [List.getElem?_set, mm_fs_len, mm_fs_get, mm_fs_get]
  have hl := (List.getElem?_eq_some_iff.mp h).1
  by_cases e : j = i
  · subst e
    rw [if_pos rfl, if_pos hl, h]
    simp [upd]
  · rw [if_neg e]
    have e2 : ¬ i = j := fun q => e q.symm
    cases hi : l[i]? with
    | none => rfl
    | some o =>
      cases o with
      | none => simp [upd, e2]
      | some r => rfl
def mm_cell (cA : Nat → ClassId) (adr : Nat → Nat) (f : Nat → Int32) (sh : Sh) : va_E := match sh with
  | .inl n => .inl (cA 0, n, .inl f)
  | .inr (.inl (t, n, r)) => .inl (cA t, n, .inr (.inr (.inr (.inr (fun j => some (adr (r + j)))))))
  | .inr (.inr (ci, fs)) => .inr (ci, mm_fs adr f fs 0)
def mm_ws (cA : Nat → ClassId) (adr : Nat → Nat) (sh : Nat → Sh) (N : Nat) (μ : Mm) : va_W := (List.range N).map (fun k => (adr k, mm_cell cA adr (μ k) (sh k)))
abbrev mm_A (adr : Nat → Nat) (N : Nat) : Nat → Prop := fun q => ∃ k, k < N ∧ q = adr k
abbrev mm_J (adr : Nat → Nat) (N : Nat) : Prop := ∀ i j, i < N → j < N → adr i = adr j → i = j
theorem mm_ws_get {cA : Nat → ClassId} {adr : Nat → Nat} {sh : Nat → Sh} {N : Nat} {μ : Mm} {k : Nat} (hk : k < N) : (mm_ws cA adr sh N μ)[k]? = some (adr k, mm_cell cA adr (μ k) (sh k)) := by
  simp [mm_ws, hk]
theorem mm_ws_at {cA : Nat → ClassId} {adr : Nat → Nat} {sh : Nat → Sh} {N : Nat} {μ : Mm} {k : Nat} {x : Nat × va_E} (h : (mm_ws cA adr sh N μ)[k]? = some x) : k < N ∧ x = (adr k, mm_cell cA adr (μ k) (sh k)) := by
  have hk : k < N := by
    have := (List.getElem?_eq_some_iff.mp h).1
    simpa [mm_ws] using this
  rw [mm_ws_get hk] at h
  exact ⟨hk, (Option.some.inj h).symm⟩
theorem mm_ws_D {cA : Nat → ClassId} {adr : Nat → Nat} {sh : Nat → Sh} {N : Nat} {μ : Mm} (hj : mm_J adr N) : va_D (mm_A adr N) (mm_ws cA adr sh N μ) := by
  refine ⟨fun i j x y hi hj' hxy => ?_, fun k q hk => ?_⟩
  · obtain ⟨h1, rfl⟩ := mm_ws_at hi
    obtain ⟨h2, rfl⟩ := mm_ws_at hj'
    exact hj i j h1 h2 hxy
  · obtain ⟨h1, rfl⟩ := mm_ws_at hk
    exact ⟨k, h1, rfl⟩
theorem mm_ws_set {cA : Nat → ClassId} {adr : Nat → Nat} {sh : Nat → Sh} {N : Nat} {μ μ' : Mm} {k : Nat} (_hk : k < N) (h : ∀ a, a ≠ k → μ' a = μ a) : (mm_ws cA adr sh N μ).set k (adr k, mm_cell cA adr (μ' k) (sh k)) = mm_ws cA adr sh N μ' := by
  apply List.ext_getElem?
  intro i
  rw [List.getElem?_set]
  by_cases e : k = i
  · subst e
    simp [mm_ws, _hk]
  · rw [if_neg e]
    by_cases hi : i < N
    · rw [mm_ws_get hi, mm_ws_get hi, h i (fun q => e q.symm)]
    · simp [mm_ws, hi]
abbrev mm_ty (cA : Nat → ClassId) : List (ClassId × FieldType) := [(cA 0, .int), (cA 1, .object RX5), (cA 2, .object RX2), (cA 3, .array .int)]
/-- what is said of the statics, by a state and its heap, stays -/
def mm_Ok (A : Nat → Prop) (SS : State → Heap → Prop) : Prop := (∀ (s U : State) (H : Heap) (locs : List Loc), s.WarmedH U.vm → va_S A s.heap H locs → SS s s.heap → SS U H) ∧ ∀ (U : State) (g : JFrame) (mk : MethodId) (a : Array Value), SS U U.heap → SS (U.calling g mk a) U.heap
def mm_Pre (D : va_G) (cA : Nat → ClassId) (adr : Nat → Nat) (sh : Nat → Sh) (N : Nat) (SS : State → Heap → Prop) (μ : Mm) (U : State) : Prop := va_P D vwCl (mm_ws cA adr sh N μ) U.heap ∧ va_K D vwCl (mm_ty cA) U ∧ SS U U.heap
abbrev mm_B (D : va_G) (cA : Nat → ClassId) (adr : Nat → Nat) (sh : Nat → Sh) (N : Nat) (u : Mm) (t : State) : Prop := va_P D vwCl (mm_ws cA adr sh N u) t.heap
abbrev mm_Qi (D : va_G) (cA : Nat → ClassId) (adr : Nat → Nat) (sh : Nat → Sh) (N : Nat) (r : Int32) (μ' : Mm) : Array Value → State → Outcome → State → Prop := va_Qi (fun r' u => r' = r ∧ u = μ') (mm_B D cA adr sh N) (mm_A adr N)
abbrev mm_Qv (D : va_G) (cA : Nat → ClassId) (adr : Nat → Nat) (sh : Nat → Sh) (N : Nat) (_ : Int32) (μ' : Mm) : Array Value → State → Outcome → State → Prop := va_Qv (fun u => u = μ') (mm_B D cA adr sh N) (mm_A adr N)
def mm_Mi (l : Launch) (D : va_G) (cA : Nat → ClassId) (adr : Nat → Nat) (sh : Nat → Sh) (N : Nat) (SS : State → Heap → Prop) (y : MethodName) (cc : ByteArray) (nL : Nat) (ret : Option FieldType) (rm : Room) (vs : List Value) (μ : Mm) (o : Aa) : Prop :=
  ∀ (r : Int32) (μ' : Mm), o = some (r, μ') → Met l y (Cond.code y cc nL ret :: mm_TB) rm (va_Pc vs (mm_Pre D cA adr sh N SS μ)) (mm_Qi D cA adr sh N r μ') 0 0 (mm_A adr N)
def mm_Mv (l : Launch) (D : va_G) (cA : Nat → ClassId) (adr : Nat → Nat) (sh : Nat → Sh) (N : Nat) (SS : State → Heap → Prop) (y : MethodName) (cc : ByteArray) (nL : Nat) (ret : Option FieldType) (rm : Room) (vs : List Value) (μ : Mm) (o : Aa) : Prop :=
  ∀ (r : Int32) (μ' : Mm), o = some (r, μ') → Met l y (Cond.code y cc nL ret :: mm_TB) rm (va_Pc vs (mm_Pre D cA adr sh N SS μ)) (mm_Qv D cA adr sh N r μ') 0 0 (mm_A adr N)
/-- what stays the same while a method of the world runs -/
def mm_C (p : Program) (R : Room) (s : State) (m : MethodId) (args : Array Value) (meth : Method) (c : Code) (cc : ByteArray) (nL : Nat) (own : String) (D : va_G) (cA : Nat → ClassId) (adr : Nat → Nat) (N : Nat) (SS : State → Heap → Prop) : Prop :=
  (∃ w0 : Cond, CallFix p m c cc nL s args (w0 :: mm_TB) own) ∧ meth.locks = false ∧ va_K D vwCl (mm_ty cA) s ∧ mm_J adr N ∧ mm_Ok (mm_A adr N) SS ∧ SS s s.heap ∧ R.cells = 0 ∧ R.slots = 0
/-- the walk: from pc, with these locals and this stack, to the end that E tells -/
def mm_G (p : Program) (l : Launch) (e : Env) (R : Room) (s : State) (m : MethodId) (args : Array Value) (below : List Frame) (meth : Method) (c : Code) (nL : Nat) (D : va_G) (cA : Nat → ClassId) (adr : Nat → Nat) (sh : Nat → Sh) (N : Nat) (Qf : Int32 → Mm → Array Value → State → Outcome → State → Prop) (μ : Mm) (pc : Nat) (lv : List (Nat × Value)) (st : List Value) (E : Aa) : Prop :=
  ∀ (H : Heap) (locs : List Loc) (ls : Array Slot), va_P D vwCl (mm_ws cA adr sh N μ) H → va_S (mm_A adr N) s.heap H locs → lv_has ls nL lv → ∀ (r : Int32) (μ' : Mm), E = some (r, μ') → W p l e R s m args below meth c H locs 0 0 (MQ below (Qf r μ') args s 0 0 (mm_A adr N)) (F0 m pc ls st)
theorem mm_good {w0 : Cond} {y : MethodName} {cc : ByteArray} {nL : Nat} {ret : Option FieldType} (h : Cond.code y cc nL ret ∈ mm_TB) : GoodIn (w0 :: mm_TB) (Cond.code y cc nL ret :: mm_TB) := fun w hw => by
  have hm : w ∈ mm_TB := (List.mem_cons.mp hw).elim (fun e => e ▸ h) id
  exact ⟨List.mem_cons_of_mem _ hm, (mm_goodL w hm).2⟩
