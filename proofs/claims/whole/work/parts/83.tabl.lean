section GK
variable {p : Program} {l : Launch} {e : Env} {R : Room} {s : State} {m : MethodId} {args : Array Value} {below : List Frame} {meth : Method} {c : Code} {cells slots : Nat} {Q : State → Prop}
variable {cc : ByteArray} {nL : Nat} {own : String} {pc : Nat} {st : List Value} {D : va_G} {A : Nat → Prop} {a : Nat} {ws : va_W} {cA : Nat → ClassId} {lv : List (Nat × Value)} {t0 : Nat}
def g_of (q : Nat) (i : Nat) : Option Nat := if i < 10 then some (q + 1 + i) else none
theorem g_outer (k : ClassId) (N h : Nat) (i : Nat) : Jvm.Free.Multi.outerC k N h i = arrV k N (fun j => va_rf (if j < i then some (h + 1 + j) else none)) := by
  induction i with
  | zero =>
    have e : (fun j : Nat => va_rf (if j < 0 then some (h + 1 + j) else none)) = fun _ => Value.null := by
      funext j
      simp [va_rf]
    rw [e, ← arrV_new]
    rfl
  | succ i ih =>
    have e : (fun j : Nat => va_rf (if j < i + 1 then some (h + 1 + j) else none)) = updV (fun j => va_rf (if j < i then some (h + 1 + j) else none)) i (.ref (h + 1 + i)) := by
      funext j
      by_cases e1 : j = i
      · subst e1
        simp [updV, va_rf]
      · by_cases e2 : j < i
        · simp [updV, e1, e2, Nat.lt_succ_of_lt e2]
        · simp [updV, e1, e2, show ¬ j < i + 1 by omega]
    rw [e, ← arrV_store, ← ih]
    rfl
def g_rows (cA : Nat → ClassId) (q : Nat) : Nat → va_W
  | 0 => []
  | n + 1 => g_rows cA q n ++ [(q + 1 + n, .inl (cA 0, 7, .inl (fun _ => 0)))]
theorem g_pushAll {H1 : Heap} {w : va_W} {q : Nat} (hP : va_P D vwCl w H1) (hD : va_D A w) (hlt : ∀ (k : Nat) (x : Nat × va_E), w[k]? = some x → x.1 < q + 1) (hA : ∀ x, q ≤ x → A x) : ∀ n, (∀ j, j < n → H1[q + 1 + j]? = some (vp_cell (cA 0) (7, .inl (fun _ => 0)))) → va_P D vwCl (w ++ g_rows cA q n) H1 ∧ va_D A (w ++ g_rows cA q n) ∧ ∀ (k : Nat) (x : Nat × va_E), (w ++ g_rows cA q n)[k]? = some x → x.1 < q + 1 + n
  | 0, _ => by
    rw [g_rows, List.append_nil]
    exact ⟨hP, hD, hlt⟩
  | n + 1, hj => by
    obtain ⟨h1, h2, h3⟩ := g_pushAll hP hD hlt hA n (fun j h => hj j (by omega))
    rw [g_rows, ← List.append_assoc]
    generalize w ++ g_rows cA q n = v at h1 h2 h3
    have one : ∀ (k : Nat) (x : Nat × va_E), (v ++ [(q + 1 + n, .inl (cA 0, 7, .inl (fun _ => 0)))])[k]? = some x → (v[k]? = some x ∧ k < v.length) ∨ (k = v.length ∧ x = (q + 1 + n, .inl (cA 0, 7, .inl (fun _ => 0)))) := fun k x hx => by
      by_cases hl : k < v.length
      · rw [List.getElem?_append_left hl] at hx
        exact Or.inl ⟨hx, hl⟩
      · rw [List.getElem?_append_right (by omega)] at hx
        have h0 : k - v.length < 1 := (List.getElem?_eq_some_iff.mp hx).1
        rw [show k - v.length = 0 by omega] at hx
        exact Or.inr ⟨by omega, (Option.some.inj hx).symm⟩
    refine ⟨h1.app (fun k x hx => ?_), ⟨fun i j x y hi hj' hxy => ?_, fun k x hx => ?_⟩, fun k x hx => ?_⟩
    · have h0 : k < 1 := (List.getElem?_eq_some_iff.mp hx).1
      rw [show k = 0 by omega] at hx
      cases hx
      exact hj n (by omega)
    · rcases one i x hi with ⟨a1, a2⟩ | ⟨a1, rfl⟩ <;> rcases one j y hj' with ⟨b1, b2⟩ | ⟨b1, rfl⟩
      · exact h2.1 i j x y a1 b1 hxy
      · have := h3 i x a1
        simp only at hxy
        omega
      · have := h3 j y b1
        simp only at hxy
        omega
      · omega
    · rcases one k x hx with ⟨a1, _⟩ | ⟨_, rfl⟩
      · exact h2.2 k x a1
      · exact hA _ (by simp only; omega)
    · rcases one k x hx with ⟨a1, _⟩ | ⟨_, rfl⟩
      · have := h3 k x a1
        omega
      · simp only
        omega
theorem g_mna (X : gC p s m args meth c cc nL RX3 D cA A) (hss : g_SS t0 A s) (ws' : Nat → va_W) (hd : decode cc pc = .ok (.multianewarray 19 2, 4)) (hc : cells + 11 ≤ R.cells) (hs : slots + 80 ≤ R.slots) (hw : ∀ q, (ws ++ [(q, .inl (cA 3, 10, .inr (.inr (.inr (.inr (g_of q))))))]) ++ g_rows cA q 10 = ws' q)
    (kk : ∀ q, gG p l e R s m args below meth c nL D A Q (cells + 1 + 10) (slots + 10 + 70) (ws' q) (pc + 4) lv (.ref q :: st)) : gG p l e R s m args below meth c nL D A Q cells slots ws pc lv (.int 7 :: .int 10 :: st) := by
  obtain ⟨hx, hb, hml, hown, ⟨w0, hts⟩, hin, hK, hA⟩ := X
  have tt := fun w h => hts w (List.mem_cons_of_mem w0 h)
  intro H locs ls hP hD hS hl T hT Y
  obtain ⟨vm', c3, c0, -, n3, n0, -, -, Y', step⟩ := Y.multianewarray2F hx (own := RX3) (index := 19) (ty := .int) hown (tt _ wq_X3_19) hss.2.2.1 (tt _ wa_int) (g := F0 m pc ls (.int 7 :: .int 10 :: st)) rfl (by rw [hb]; exact hd) rfl (by decide) (by decide) (by decide) (by decide) (by decide) rfl rfl hc hs
  have e3 : c3 = cA 3 := Option.some.inj (n3.symm.trans (hK.2 3 _ rfl).2)
  have e0 : c0 = cA 0 := Option.some.inj (n0.symm.trans (hK.2 0 _ rfl).2)
  subst e3 e0
  have g1 := Jvm.Free.Multi.fill_facts (T.setVm vm') (cA 3) (cA 0) 10 7 (defaultValue .int) 10
  have g2 := fun (x : Nat) (h : x < (T.setVm vm').heap.size) => Jvm.Free.Multi.fill_old (T.setVm vm') (cA 3) (cA 0) 10 7 (defaultValue .int) h 10
  have g3 := fun (j : Nat) (h : j < 10) => Jvm.Free.Multi.fill_inner (T.setVm vm') (cA 3) (cA 0) 10 7 (defaultValue .int) 10 j h
  obtain ⟨z1, z2, -, -⟩ := g1
  have hTH : (T.setVm vm').heap = H := hT
  rw [hTH] at z1 z2 g2 g3
  have Y2 : Stand p l e R s m args below meth c (Jvm.Free.Multi.fill (T.setVm vm') (cA 3) (cA 0) 10 7 (defaultValue .int) 10) locs (cells + 1 + 10) (slots + 10 + 70) := Y'
  have step2 : ∀ target, Steps p.tables e below ((Jvm.Free.Multi.fill (T.setVm vm') (cA 3) (cA 0) 10 7 (defaultValue .int) 10).setTop (F0 m (pc + 4) ls (.ref H.size :: st))) target → Steps p.tables e below (T.setTop (F0 m pc ls (.int 7 :: .int 10 :: st))) target := hT ▸ step
  generalize Jvm.Free.Multi.fill (T.setVm vm') (cA 3) (cA 0) 10 7 (defaultValue .int) 10 = F at z1 z2 g2 g3 Y2 step2
  have hout : F.heap[H.size]? = some (vp_cell (cA 3) (10, .inr (.inr (.inr (.inr (g_of H.size)))))) := by
    rw [z2, g_outer, vp_cell_q]
    rfl
  have hP0 : va_P D vwCl ws F.heap := hP.kept (fun k x h => g2 x.1 ((hP k x h).lt))
  have hP1 : va_P D vwCl (ws ++ [(H.size, .inl (cA 3, 10, .inr (.inr (.inr (.inr (g_of H.size))))))]) F.heap := hP0.app (fun k x h => by
    have h0 : k < 1 := (List.getElem?_eq_some_iff.mp h).1
    rw [show k = 0 by omega] at h
    cases h
    exact hout)
  have hD1 : va_D A (ws ++ [(H.size, .inl (cA 3, 10, .inr (.inr (.inr (.inr (g_of H.size))))))]) := hD.push hP rfl (hA _ hS.1)
  have hlt : ∀ (k : Nat) (x : Nat × va_E), (ws ++ [(H.size, .inl (cA 3, 10, .inr (.inr (.inr (.inr (g_of H.size))))))])[k]? = some x → x.1 < H.size + 1 := fun k x h => by
    by_cases hl : k < ws.length
    · rw [List.getElem?_append_left hl] at h
      have := (hP k x h).lt
      omega
    · rw [List.getElem?_append_right (by omega)] at h
      have h0 : k - ws.length < 1 := (List.getElem?_eq_some_iff.mp h).1
      rw [show k - ws.length = 0 by omega] at h
      cases h
      exact Nat.lt_succ_self _
  have rowc : ∀ j, j < 10 → F.heap[H.size + 1 + j]? = some (vp_cell (cA 0) (7, .inl (fun _ => 0))) := fun j hj => by
    rw [g3 j hj, vp_cell_i]
    show some (Jvm.Free.Multi.innerC (cA 0) 7 (.int 0)) = _
    rw [← arrV_new]
    rfl
  obtain ⟨hP2, hD2, -⟩ := g_pushAll hP1 hD1 hlt (fun x h => hA x (Nat.le_trans hS.1 h)) 10 rowc
  rw [hw H.size] at hP2 hD2
  obtain ⟨t, a1, b1⟩ := kk H.size F.heap locs ls hP2 hD2 ⟨by rw [z1]; have := hS.1; omega, fun q h1 h2 => (g2 q (Nat.lt_of_lt_of_le h1 hS.1)).trans (hS.2.1 q h1 h2), hS.2.2⟩ hl F rfl Y2
  exact ⟨t, step2 t a1, b1⟩
end GK
theorem g_of_up (q : Nat) : g_of q = va_up (va_up (va_up (va_up (va_up (va_up (va_up (va_up (va_up (va_up (fun _ => none) 0 (some (q + 1))) 1 (some (q + 2))) 2 (some (q + 3))) 3 (some (q + 4))) 4 (some (q + 5))) 5 (some (q + 6))) 6 (some (q + 7))) 7 (some (q + 8))) 8 (some (q + 9))) 9 (some (q + 10)) := by
  funext j
  match j with
  | 0 => rfl
  | 1 => rfl
  | 2 => rfl
  | 3 => rfl
  | 4 => rfl
  | 5 => rfl
  | 6 => rfl
  | 7 => rfl
  | 8 => rfl
  | 9 => rfl
  | j + 10 => simp [g_of, va_up]
