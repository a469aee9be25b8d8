section GI
variable {p : Program} {l : Launch} {e : Env} {R : Room} {s : State} {m : MethodId} {args : Array Value} {below : List Frame} {meth : Method} {c : Code} {cells slots : Nat} {Q : State → Prop}
variable {cc : ByteArray} {nL : Nat} {own : String} {pc : Nat} {st : List Value} {D : va_G} {A : Nat → Prop} {a : Nat} {ws : va_W} {cA : Nat → ClassId} {lv : List (Nat × Value)} {t0 : Nat}
theorem g_ws {ws' : va_W} (hw : ws = ws') (kk : gG p l e R s m args below meth c nL D A Q cells slots ws' pc lv st) : gG p l e R s m args below meth c nL D A Q cells slots ws pc lv st := hw ▸ kk
theorem g_in {i : Int32} {n : Nat} (h : decide (¬ (i < 0 ∨ n ≤ i.toNatClampNeg)) = true) : vp_in i n := (of_decide_eq_true h : ¬ (i < 0 ∨ n ≤ i.toNatClampNeg))
theorem g_obj {C : String} {t : Nat} {k : ClassId} (ht : (mm_ty cA)[t]? = some (cA t, .object C)) (hK : va_K D vwCl (mm_ty cA) s) (h : va_K D vwCl (mm_ty cA ++ [(k, .object C)]) s) : k = cA t := by
  obtain ⟨_, _, _, _, _, h1⟩ := (h.2 4 (k, .object C) rfl).2
  obtain ⟨_, _, _, _, _, h2⟩ := (hK.2 t _ ht).2
  exact Option.some.inj (h1.symm.trans h2)
theorem g_anew (X : gC p s m args meth c cc nL own D cA A) {C : String} {t index : Nat} (hover : va_AO C s) (ht : (mm_ty cA)[t]? = some (cA t, .object C)) {n : Int32} (N' : Nat) (ws' : Nat → va_W) (hd : decode cc pc = .ok (.anewarray index, 3)) (hq : Cond.classLink own index C ∈ mm_TB) (hn : ¬ n < 0) (hN : n.toNatClampNeg = N') (hby : N' * 4 ≤ 536870912) (hc : cells + 1 ≤ R.cells) (hs : slots + N' ≤ R.slots) (hw : ∀ q, ws ++ [(q, .inl (cA t, N', .inr (.inr (.inr (.inr (fun _ => none))))))] = ws' q)
    (kk : ∀ q, gG p l e R s m args below meth c nL D A Q (cells + 1) (slots + N') (ws' q) (pc + 3) lv (.ref q :: st)) : gG p l e R s m args below meth c nL D A Q cells slots ws pc lv (.int n :: st) := by
  obtain ⟨hx, hb, hml, hown, ⟨w0, hts⟩, hin, hK, hA⟩ := X
  intro H locs ls hP hD hS hl
  refine va_newq (D := D) (cl := vwCl) hx hb hown (hts _ (List.mem_cons_of_mem _ hq)) hover hK hP hD hS hA hn hN hby hc hs hd (fun q c1 H1 hK1 hP1 hD1 hS1 => ?_)
  have hc1 := g_obj ht hK hK1
  subst hc1
  rw [hw q] at hP1 hD1
  exact kk q H1 locs ls hP1 hD1 hS1 hl
theorem g_aast (X : gC p s m args meth c cc nL own D cA A) {C : String} {T : u_T} {N n x v ci t : Nat} {vs : List Value} {f : Nat → Option Nat} {i : Int32} (q0 qk j : Nat) (hj : i.toNatClampNeg = j) (ws' : va_W) (hd : decode cc pc = .ok (.aastore, 1)) (ha : ws[q0]? = some (x, .inl (cA t, n, .inr (.inr (.inr (.inr f)))))) (hv : ws[qk]? = some (v, .inr (ci, vs))) (hc : vwCl[ci]? = some (C, T, N)) (ht : (mm_ty cA)[t]? = some (cA t, .object C)) (hi : vp_in i n) (hw : ws.set q0 (x, .inl (cA t, n, .inr (.inr (.inr (.inr (va_up f j (some v))))))) = ws')
    (kk : gG p l e R s m args below meth c nL D A Q cells slots ws' (pc + 1) lv st) : gG p l e R s m args below meth c nL D A Q cells slots ws pc lv (.ref v :: .int i :: .ref x :: st) := by
  obtain ⟨hx, hb, hml, hown, ⟨w0, hts⟩, hin, hK, hA⟩ := X
  intro H locs ls hP hD hS hl
  subst hj
  refine va_astq (D := D) (cl := vwCl) (r := (C, T, N)) hx hb hK hP hD hS q0 t qk ci ha ht hv hc hi hd (fun H1 locs1 hP1 hD1 hS1 => ?_)
  rw [hw] at hP1 hD1
  exact kk H1 locs1 ls hP1 hD1 hS1 hl
theorem g_iast2 (X : gC p s m args meth c cc nL own D cA A) {n x : Nat} {f : Nat → Int32} {i v : Int32} (q0 j : Nat) (hj : i.toNatClampNeg = j) (ws' : va_W) (hd : decode cc pc = .ok (.iastore, 1)) (he : ws[q0]? = some (x, .inl (cA 0, n, .inl f))) (hi : vp_in i n) (hw : ws.set q0 (x, .inl (cA 0, n, .inl (upd f j v))) = ws')
    (kk : gG p l e R s m args below meth c nL D A Q cells slots ws' (pc + 1) lv st) : gG p l e R s m args below meth c nL D A Q cells slots ws pc lv (.int v :: .int i :: .ref x :: st) := by
  subst hj
  exact g_iast X q0 ws' hd he hi hw kk
theorem g_nd : ∀ n, n < 60 → va_nd (List.range n) = true := by decide +kernel
end GI
