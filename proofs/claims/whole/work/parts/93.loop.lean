section LLOOP
variable {p : Program} {l : Launch} {e : Env} {s : State} {m : MethodId} {below : List Frame} {meth : Method} {c : Code} {b L : Nat} {xs : Nat → Int32} {D : va_G} {cA : Nat → ClassId} {ax am tt sK sV : Nat → Nat} {qv : Value}
theorem l_and (x : Int32) : ∃ n : Nat, n < 32 ∧ x &&& 31 = nI n := by
  refine ⟨(x &&& 31).toBitVec.toNat, ?_, ?_⟩
  · have e : (x &&& 31).toBitVec = x.toBitVec &&& 31#32 := rfl
    rw [e, BitVec.toNat_and]
    exact Nat.lt_of_le_of_lt Nat.and_le_right (by decide)
  · apply Int32.toBitVec_inj.mp
    show (x &&& 31).toBitVec = (Int32.ofNat (x &&& 31).toBitVec.toNat).toBitVec
    rw [Int32.toBitVec_ofNat', BitVec.ofNat_toNat, BitVec.setWidth_eq]
theorem l_nat {n : Nat} (h : n < 2 ^ 31) : nI n = mI (n : Int) := Int32.toInt_inj.mp (by rw [nI_toInt h, mI_toInt (by omega) (by omega)])
/-- THE LAW'S LOOP, from its head -/
theorem l_loop (X : lC p s m meth c b L xs D cA ax am tt sK sV qv) : ∀ (n i : Nat), i ≤ L → L < i + n → ∀ σ τ : IM, RX σ τ → lG p l e s m below meth c b D cA ax am i (enc σ) (enc τ) 18 [] := by
  intro n
  induction n with
  | zero => intro i h1 h2; exact absurd h2 (by omega)
  | succ n ih =>
    intro i hi0 hin σ τ h
    have next : i + 6 ≤ L → ∀ σ' τ' : IM, RX σ' τ' → lG p l e s m below meth c b D cA ax am i (enc σ') (enc τ') 1185 [] := by
      intro hi σ' τ' h'
      obtain ⟨⟨hx, hb, hr, hml, hown, hts, hX, hbl, hlocks, hgv⟩, hL, -⟩ := X
      intro H locs ls h1 h2 h3 hl
      refine lv_iinc (v := nI (i + 6)) (lv' := [(3, .int (nI (i + 6))), (2, .ref (am 0)), (1, .ref (ax 0)), (0, .ref b)]) hx hb dL_law_1185 hl (k := 0) rfl ?_ (by decide) rfl (fun ls hl => ?_)
      · rw [← nI_add]
        rfl
      refine lv_goto (tgt := 18) hx hb dL_law_1188 (by decide) ?_
      exact ih (i + 6) hi (by omega) σ' τ' h' H locs ls h1 h2 h3 hl
    intro H locs ls h1 h2 h3 hl
    have X0 := X
    obtain ⟨⟨hx, hb, hr, hml, hown, hts, hX, hbl, hlocks, hgv⟩, hL, -⟩ := X
    refine lv_iload_n hx hb dL_law_18 rfl (lv_at hl 0 rfl) ?_
    refine lv_aload_n hx hb dL_law_19 rfl (lv_at hl 3 rfl) ?_
    refine va_slen hx hb hX hbl (l_bA hbl) h3 dL_law_20 ?_
    refine lv_bipush (v := 6) hx hb dL_law_21 (by decide) ?_
    refine lv_isub hx hb dL_law_23 ?_
    have eL : Int32.ofNat L - 6 = mI ((L : Int) - 6) := by
      rw [← mI_sub, show Int32.ofNat L = mI (L : Int) from l_nat (by omega)]
      rfl
    have ei : nI i = mI (i : Int) := l_nat (by omega)
    rw [eL]
    refine lv_icmp_gt (tgt := 1191) hx hb dL_law_24 (by decide) (fun _ => ?_) (fun hc => ?_)
    · refine lv_iconst (v := 1) hx hb dL_law_1191 (by decide) ?_
      refine va_forget (fun q hq => h3.2.2 q hq) ?_
      refine W.widen (k := 600000) (n := 7302249) (Nat.le_of_ble_eq_true rfl) (Nat.le_of_ble_eq_true rfl) ?_
      exact lw_ret hx hb hr hlocks dL_law_1192
    · have hi : i + 6 ≤ L := by
        rw [ei, mI_lt (by omega) (by omega) (by omega) (by omega)] at hc
        omega
      refine lv_aload_n hx hb dL_law_27 rfl (lv_at hl 3 rfl) ?_
      refine lv_iload_n hx hb dL_law_28 rfl (lv_at hl 0 rfl) ?_
      refine va_sld hx hb hX hbl (l_bA hbl) h3 (vp_in_nI (show i < L by omega) (by omega)) dL_law_29 ?_
      refine lv_bipush (v := 31) hx hb dL_law_30 (by decide) ?_
      refine lv_iand hx hb dL_law_32 ?_
      obtain ⟨j, hj, ej⟩ := l_and (xs (nI i).toNatClampNeg)
      rw [ej]
      match j, hj with
      | 0, _ => exact lv_tableIn (off := 139) (tgt := 172) hx hb dL_law_33 (by decide) (by decide) rfl (by decide) (l_planks X0 hi h (next hi) H locs ls h1 h2 h3 hl)
      | 1, _ => exact lv_tableIn (off := 162) (tgt := 195) hx hb dL_law_33 (by decide) (by decide) rfl (by decide) (l_rule X0 hi h (next hi) H locs ls h1 h2 h3 hl)
      | 2, _ => exact lv_tableIn (off := 195) (tgt := 228) hx hb dL_law_33 (by decide) (by decide) rfl (by decide) (l_person X0 hi h (next hi) H locs ls h1 h2 h3 hl)
      | 3, _ => exact lv_tableIn (off := 258) (tgt := 291) hx hb dL_law_33 (by decide) (by decide) rfl (by decide) (l_told X0 hi h (next hi) H locs ls h1 h2 h3 hl)
      | 4, _ => exact lv_tableIn (off := 291) (tgt := 324) hx hb dL_law_33 (by decide) (by decide) rfl (by decide) (l_stay X0 hi h (next hi) H locs ls h1 h2 h3 hl)
      | 5, _ => exact lv_tableIn (off := 324) (tgt := 357) hx hb dL_law_33 (by decide) (by decide) rfl (by decide) (l_hold X0 hi h (next hi) H locs ls h1 h2 h3 hl)
      | 6, _ => exact lv_tableIn (off := 357) (tgt := 390) hx hb dL_law_33 (by decide) (by decide) rfl (by decide) (l_clear X0 hi h (next hi) H locs ls h1 h2 h3 hl)
      | 7, _ => exact lv_tableIn (off := 370) (tgt := 403) hx hb dL_law_33 (by decide) (by decide) rfl (by decide) (l_type X0 hi h (next hi) H locs ls h1 h2 h3 hl)
      | 8, _ => exact lv_tableIn (off := 433) (tgt := 466) hx hb dL_law_33 (by decide) (by decide) rfl (by decide) (l_laws X0 hi h (next hi) H locs ls h1 h2 h3 hl)
      | 9, _ => exact lv_tableIn (off := 446) (tgt := 479) hx hb dL_law_33 (by decide) (by decide) rfl (by decide) (l_people X0 hi h (next hi) H locs ls h1 h2 h3 hl)
      | 10, _ => exact lv_tableIn (off := 459) (tgt := 492) hx hb dL_law_33 (by decide) (by decide) rfl (by decide) (l_count X0 hi h (next hi) H locs ls h1 h2 h3 hl)
      | 11, _ => exact lv_tableIn (off := 482) (tgt := 515) hx hb dL_law_33 (by decide) (by decide) rfl (by decide) (l_fate X0 hi h (next hi) H locs ls h1 h2 h3 hl)
      | 12, _ => exact lv_tableIn (off := 515) (tgt := 548) hx hb dL_law_33 (by decide) (by decide) rfl (by decide) (l_at X0 hi h (next hi) H locs ls h1 h2 h3 hl)
      | 13, _ => exact lv_tableIn (off := 548) (tgt := 581) hx hb dL_law_33 (by decide) (by decide) rfl (by decide) (l_gone X0 hi h (next hi) H locs ls h1 h2 h3 hl)
      | 14, _ => exact lv_tableIn (off := 581) (tgt := 614) hx hb dL_law_33 (by decide) (by decide) rfl (by decide) (l_all X0 hi h (next hi) H locs ls h1 h2 h3 hl)
      | 15, _ => exact lv_tableIn (off := 604) (tgt := 637) hx hb dL_law_33 (by decide) (by decide) rfl (by decide) (l_soonest X0 hi h (next hi) H locs ls h1 h2 h3 hl)
      | 16, _ => exact lv_tableIn (off := 637) (tgt := 670) hx hb dL_law_33 (by decide) (by decide) rfl (by decide) (l_order X0 hi h (next hi) H locs ls h1 h2 h3 hl)
      | 17, _ => exact lv_tableIn (off := 680) (tgt := 713) hx hb dL_law_33 (by decide) (by decide) rfl (by decide) (l_worth X0 hi h (next hi) H locs ls h1 h2 h3 hl)
      | 18, _ => exact lv_tableIn (off := 713) (tgt := 746) hx hb dL_law_33 (by decide) (by decide) rfl (by decide) (l_waits X0 hi h (next hi) H locs ls h1 h2 h3 hl)
      | 19, _ => exact lv_tableIn (off := 736) (tgt := 769) hx hb dL_law_33 (by decide) (by decide) rfl (by decide) (l_handed X0 hi h (next hi) H locs ls h1 h2 h3 hl)
      | 20, _ => exact lv_tableIn (off := 769) (tgt := 802) hx hb dL_law_33 (by decide) (by decide) rfl (by decide) (l_ford X0 hi h (next hi) H locs ls h1 h2 h3 hl)
      | 21, _ => exact lv_tableIn (off := 792) (tgt := 825) hx hb dL_law_33 (by decide) (by decide) rfl (by decide) (l_shared X0 hi h (next hi) H locs ls h1 h2 h3 hl)
      | 22, _ => exact lv_tableIn (off := 825) (tgt := 858) hx hb dL_law_33 (by decide) (by decide) rfl (by decide) (l_late X0 hi h (next hi) H locs ls h1 h2 h3 hl)
      | 23, _ => exact lv_tableIn (off := 878) (tgt := 911) hx hb dL_law_33 (by decide) (by decide) rfl (by decide) (l_other X0 hi h (next hi) H locs ls h1 h2 h3 hl)
      | 24, _ => exact lv_tableIn (off := 911) (tgt := 944) hx hb dL_law_33 (by decide) (by decide) rfl (by decide) (l_image X0 hi h (next hi) H locs ls h1 h2 h3 hl)
      | 25, _ => exact lv_tableIn (off := 924) (tgt := 957) hx hb dL_law_33 (by decide) (by decide) rfl (by decide) (l_restore X0 hi h (next hi) H locs ls h1 h2 h3 hl)
      | 26, _ => exact lv_tableIn (off := 937) (tgt := 970) hx hb dL_law_33 (by decide) (by decide) rfl (by decide) (l_crowd X0 hi h (next hi) H locs ls h1 h2 h3 hl)
      | 27, _ => exact lv_tableIn (off := 990) (tgt := 1023) hx hb dL_law_33 (by decide) (by decide) rfl (by decide) (l_sheet X0 hi h (next hi) H locs ls h1 h2 h3 hl)
      | 28, _ => exact lv_tableIn (off := 1033) (tgt := 1066) hx hb dL_law_33 (by decide) (by decide) rfl (by decide) (l_drop X0 hi h (next hi) H locs ls h1 h2 h3 hl)
      | 29, _ => exact lv_tableIn (off := 1056) (tgt := 1089) hx hb dL_law_33 (by decide) (by decide) rfl (by decide) (l_item X0 hi h (next hi) H locs ls h1 h2 h3 hl)
      | 30, _ => exact lv_tableIn (off := 1109) (tgt := 1142) hx hb dL_law_33 (by decide) (by decide) rfl (by decide) (l_film X0 hi h (next hi) H locs ls h1 h2 h3 hl)
      | 31, _ => exact lv_tableOut (tgt := 1185) hx hb dL_law_33 (by decide) (by decide) (next hi σ τ h H locs ls h1 h2 h3 hl)
      | j + 32, h9 => exact absurd h9 (by omega)
end LLOOP
