/-! statics at the law's start -/
abbrev svF : List Cond := flatC (Jvm.Cond.and given_1 narrow_1)
theorem sv_m1 : ∀ k, k < 5 → Cond.arrayOf (.static "PlankBridge" (mm_stN k) "[I") .int ∈ svF := by decide +kernel
theorem sv_m2 : ∀ k, k < 5 → Cond.eq (.length (.static "PlankBridge" (mm_stN k) "[I")) (.int (Int32.ofNat (mm_stV k).length)) ∈ svF := by decide +kernel
theorem sv_m3 : ∀ k, k < 5 → ∀ j, j < (mm_stV k).length → Cond.eq (.elem (.static "PlankBridge" (mm_stN k) "[I") (.int (Int32.ofNat j))) (.int ((mm_stV k).getD j 0)) ∈ svF := by decide +kernel
theorem sv_l0 : ∀ k, k < 5 → (mm_stV k).length < 2 ^ 31 := by decide +kernel
theorem sv_l : ∀ k, k < 5 → Cond.laysStatic "PlankBridge" (mm_stN k) "[I" ∈ lw_tbl := fun k hk => match k, hk with
  | 0, _ => mm_t1 (List.mem_of_getElem? (i := 34) rfl)
  | 1, _ => mm_t2 (List.mem_of_getElem? (i := 47) rfl)
  | 2, _ => mm_t2 (List.mem_of_getElem? (i := 49) rfl)
  | 3, _ => mm_t2 (List.mem_of_getElem? (i := 59) rfl)
  | 4, _ => mm_t2 (List.mem_of_getElem? (i := 61) rfl)
  | k + 5, h => absurd h (by omega)
def sv_tm (i : Nat) : Term := .string "PlankBridge$Tape" ([26, 57, 63].getD i 0)
theorem sv_s0 : ∀ i, i < 3 → mm_len.getD i 0 < 2 ^ 31 := by decide +kernel
theorem sv_s1 : ∀ i, i < 3 → Cond.exactly (sv_tm i) "java/lang/String" ∈ svF := by decide +kernel
theorem sv_s2 : ∀ i, i < 3 → Cond.eq (.field (sv_tm i) "java/lang/String" "coder" "B") (.int 0) ∈ svF := by decide +kernel
theorem sv_s3 : ∀ i, i < 3 → Cond.arrayOf (.field (sv_tm i) "java/lang/String" "value" "[B") .byte ∈ svF := by decide +kernel
theorem sv_s4 : ∀ i, i < 3 → Cond.eq (.length (.field (sv_tm i) "java/lang/String" "value" "[B")) (.int (Int32.ofNat (mm_len.getD i 0))) ∈ svF := by decide +kernel
theorem sv_s5 : ∀ i, i < 3 → ∀ j, j < mm_len.getD i 0 → Cond.eq (.elem (.field (sv_tm i) "java/lang/String" "value" "[B") (.int (Int32.ofNat j))) (.int ((mm_byt.getD i []).getD j 0)) ∈ svF := by decide +kernel
theorem sv_s6 : ∀ i, i < 3 → ∀ j, j < 3 → i ≠ j → Cond.not (Cond.eq (sv_tm i) (sv_tm j)) ∈ svF ∨ Cond.not (Cond.eq (sv_tm j) (sv_tm i)) ∈ svF := by decide +kernel
theorem sv_q : Cond.isRef (.static "jdk/internal/util/Preconditions" "SIOOBE_FORMATTER" "Ljava/util/function/BiFunction;") ∈ svF := by decide +kernel
theorem sv_c : Cond.eq (.static "java/lang/String" "COMPACT_STRINGS" "Z") (.int 1) ∈ svF := by decide +kernel
theorem sv_nM : ∀ q ∈ mm_nsM, Cond.methodLinkNest q.1 q.2.1 q.2.2 "PlankBridge" ∈ lw_tbl := by
  refine List.forall_mem_cons.mpr ⟨mm_t2 (List.mem_of_getElem? (i := 80) rfl), List.forall_mem_cons.mpr ⟨mm_t2 (List.mem_of_getElem? (i := 85) rfl), List.forall_mem_cons.mpr ⟨mm_t3 (List.mem_of_getElem? (i := 120) rfl), List.forall_mem_cons.mpr ⟨mm_t3 (List.mem_of_getElem? (i := 135) rfl), List.forall_mem_cons.mpr ⟨mm_t3 (List.mem_of_getElem? (i := 144) rfl), List.forall_mem_cons.mpr ⟨mm_t4 (List.mem_of_getElem? (i := 86) rfl), List.forall_mem_cons.mpr ⟨mm_t1 (List.mem_of_getElem? (i := 62) rfl), List.forall_mem_cons.mpr ⟨mm_t1 (List.mem_of_getElem? (i := 233) rfl), fun _ h => absurd h List.not_mem_nil⟩⟩⟩⟩⟩⟩⟩⟩
theorem sv_nF : ∀ q ∈ mm_nsF, Cond.fieldLinkNest q.1 q.2.1 "PlankBridge" (mm_stN q.2.2) "[I" "PlankBridge" ∈ lw_tbl := by
  refine List.forall_mem_cons.mpr ⟨mm_t1 (List.mem_of_getElem? (i := 33) rfl), List.forall_mem_cons.mpr ⟨mm_t2 (List.mem_of_getElem? (i := 58) rfl), List.forall_mem_cons.mpr ⟨mm_t2 (List.mem_of_getElem? (i := 60) rfl), List.forall_mem_cons.mpr ⟨mm_t2 (List.mem_of_getElem? (i := 169) rfl), List.forall_mem_cons.mpr ⟨mm_t2 (List.mem_of_getElem? (i := 170) rfl), List.forall_mem_cons.mpr ⟨mm_t2 (List.mem_of_getElem? (i := 196) rfl), List.forall_mem_cons.mpr ⟨mm_t2 (List.mem_of_getElem? (i := 197) rfl), fun _ h => absurd h List.not_mem_nil⟩⟩⟩⟩⟩⟩⟩
theorem sv_r0 : Cond.stringRef RX4 26 "gcwnrf" ∈ lw_tbl := mm_t2 (List.mem_of_getElem? (i := 128) rfl)
theorem sv_r1 : Cond.stringRef RX4 57 "ns" ∈ lw_tbl := mm_t2 (List.mem_of_getElem? (i := 198) rfl)
theorem sv_r2 : Cond.stringRef RX4 63 "wrls" ∈ lw_tbl := mm_t3 (List.mem_of_getElem? (i := 25) rfl)
theorem sv_lc : Cond.laysStatic "java/lang/String" "COMPACT_STRINGS" "Z" ∈ lw_tbl := mm_t2 (List.mem_of_getElem? (i := 138) rfl)
theorem sv_lq : Cond.laysStatic "jdk/internal/util/Preconditions" "SIOOBE_FORMATTER" "Ljava/util/function/BiFunction;" ∈ lw_tbl := mm_t2 (List.mem_of_getElem? (i := 146) rfl)
theorem sv_all {s : State} {args : Array Value} {A : Nat → Prop} (hts : ∀ w ∈ lw_tbl, w.before args s = true) (hg : (Jvm.Cond.and given_1 narrow_1).before args s = true) (hA : ∀ a : Nat, a < s.heap.size → ¬ A a) : ∃ (tt sK sV : Nat → Nat) (qv : Value), mm_SX A tt sK sV qv s s.heap ∧ g_SS (tt 0) A s := by
  have hs := flat_of_before _ hg
  have hT : ∀ k : Nat, ∃ t : Nat, k < 5 → va_Z "PlankBridge" (mm_stN k) "[I" (.ref t) A s s.heap ∧ va_T .int t (mm_stV k).length (fun j => .int ((mm_stV k).getD j 0)) A s s.heap := by
    intro k
    by_cases hk : k < 5
    · obtain ⟨t, h1, h2⟩ := va_Tof (f := fun j => .int ((mm_stV k).getD j 0)) (A := A) (sv_l0 k hk) (hs _ (sv_m1 k hk)) (va_eqt (hs _ (sv_m2 k hk))) (fun j hj => va_eqt (hs _ (sv_m3 k hk j hj))) hA
      exact ⟨t, fun _ => ⟨va_Zof (hts _ (sv_l k hk)) (hts _ (mm_tbl wn_X6)) h1 hA, h2⟩⟩
    · exact ⟨0, fun h => absurd h hk⟩
  obtain ⟨tt, htt⟩ := Classical.axiomOfChoice hT
  obtain ⟨sK, sV, hS, hSe⟩ := vk_Sof (tm := sv_tm) (len := mm_len) (byt := mm_byt) (N := 3) (A := A) sv_s0 (fun i hi => hs _ (sv_s1 i hi)) (fun i hi => hs _ (sv_s2 i hi)) (fun i hi => hs _ (sv_s3 i hi)) (fun i hi => hs _ (sv_s4 i hi)) (fun i hi j hj => hs _ (sv_s5 i hi j hj)) (fun i j hi hj hne => (sv_s6 i hi j hj hne).elim (fun h => Or.inl (hs _ h)) (fun h => Or.inr (hs _ h))) hA
  have hC : va_Z "java/lang/String" "COMPACT_STRINGS" "Z" (.int 1) A s s.heap := va_Zof (hts _ sv_lc) (hts _ (mm_tbl wn_J0)) (va_eqt (hs _ sv_c)) hA
  have hQ : ∃ qv : Value, va_Z "jdk/internal/util/Preconditions" "SIOOBE_FORMATTER" "Ljava/util/function/BiFunction;" qv A s s.heap ∧ qv.category = 1 := by
    rcases va_Zqof (hts _ sv_lq) (hts _ (mm_tbl wn_J3)) (hs _ sv_q) hA with h | ⟨t, h⟩
    · exact ⟨_, h, rfl⟩
    · exact ⟨_, h, rfl⟩
  obtain ⟨qv, hq1, hq2⟩ := hQ
  have nM : ∀ q ∈ mm_nsM, va_Nw (.methodLinkNest q.1 q.2.1 q.2.2 "PlankBridge") s := fun q hq => va_Nw.of rfl (hts _ (sv_nM q hq))
  have nF : ∀ q ∈ mm_nsF, va_Nw (.fieldLinkNest q.1 q.2.1 "PlankBridge" (mm_stN q.2.2) "[I" "PlankBridge") s := fun q hq => va_Nw.of rfl (hts _ (sv_nF q hq))
  refine ⟨tt, sK, sV, qv, ⟨nM, nF, fun k hk => (htt k hk).1, fun k hk => (htt k hk).2, ⟨vk_R.of (hts _ sv_r0) (hSe 0 (by omega)), vk_R.of (hts _ sv_r1) (hSe 1 (by omega)), vk_R.of (hts _ sv_r2) (hSe 2 (by omega))⟩, hS, hC, hq1, hq2⟩, ?_⟩
  exact ⟨va_AO.of (hts _ wo_X5), va_AO.of (hts _ wo_X2), hts _ wo_int, nF (RX3, 24, 0) List.mem_cons_self, (htt 0 (by omega)).1, (htt 0 (by omega)).2, nM (RX6, 21, yX4_init) (List.mem_of_getElem? (i := 6) rfl), nM (RX6, 50, yX2_init) (List.mem_of_getElem? (i := 7) rfl)⟩
