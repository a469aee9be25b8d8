def fJ0_isLatin1 (i0 : Nat) (μ : Mm) : Aa := mm_lt (fun (x1 : Int32) (m2 : Mm) => mm_bo x1 (some (x1, m2))) (fun (k_18 : Int32 → Mm → Aa) => mm_lt (fun (m3 : Mm) => k_18 0 m3) (fun (k_17 : Mm → Aa) => if (1 : Int32) = 0 then (k_17 μ) else (if (0 : Int32) = 0 then (k_18 1 μ) else (k_17 μ))))
abbrev rJ0_isLatin1 : Room := { frames := 0, cells := 0, slots := 0, locals := 0 }
set_option maxRecDepth 100000 in
set_option maxHeartbeats 8000000 in
theorem tJ0_isLatin1 {l : Launch} {D : va_G} {cA : Nat → ClassId} {adr : Nat → Nat} {tt sK sV : Nat → Nat} {qv : Value} (hJ : mm_J adr NX) (i0 : Nat) (hi0 : i0 < 3) (μ : Mm) : mm_Mi l D cA adr sX NX (mm_SX (mm_A adr NX) tt sK sV qv) yJ0_isLatin1_aae02 cJ0_isLatin1_aae02 1 (some .boolean) rJ0_isLatin1 [.ref (sK i0)] μ (fJ0_isLatin1 i0 μ) := by
  refine mm_entryi hJ mm_okX (by decide) (Nat.le_of_ble_eq_true rfl) ⟨rfl, rfl⟩ (fun p e s m below meth c X hr => ?_)
  generalize ([.ref (sK i0)] : List Value).toArray = args at X ⊢
  refine gx_lv (lv' := [(0, .ref (sK i0))]) rfl ?_
  unfold fJ0_isLatin1
  refine gx_getCS X 0 3 wf_J0_38 dJ0_isLatin1_aae02_0 rfl ?_
  refine gx_jn (fun (k : Int32 → Mm → Aa) => ∀ (x1 : Int32) (m2 : Mm), mm_G p l e rJ0_isLatin1 s m args below meth c 1 D cA adr sX NX (mm_Qi D cA adr sX NX) m2 18 [] [.int x1] (k x1 m2)) ?_ (fun k_18 hk_18 => ?_)
  · intro x1 m2
    exact gx_zret X 18 hr dJ0_isLatin1_aae02_18
  refine gx_jn (fun (k : Mm → Aa) => ∀ (m3 : Mm), mm_G p l e rJ0_isLatin1 s m args below meth c 1 D cA adr sX NX (mm_Qi D cA adr sX NX) m3 17 [] [] (k m3)) ?_ (fun k_17 hk_17 => ?_)
  · intro m3
    refine gx_iconst X 17 18 (0) dJ0_isLatin1_aae02_17 rfl ci_0 ?_
    exact hk_18 0 m3
  refine gx_if_eq X 3 17 6 dJ0_isLatin1_aae02_3 rfl rfl ?_ ?_
  · refine gx_sub [] rfl ?_
    exact hk_17 μ
  refine gx_aload_n X 6 7 0 dJ0_isLatin1_aae02_6 rfl rfl rfl ?_
  refine gx_strC X 7 10 i0 hi0 wf_J0_15 dJ0_isLatin1_aae02_7 rfl ?_
  refine gx_if_ne X 10 17 13 dJ0_isLatin1_aae02_10 rfl rfl ?_ ?_
  · refine gx_sub [] rfl ?_
    exact hk_17 μ
  refine gx_iconst X 13 14 (1) dJ0_isLatin1_aae02_13 rfl ci_1 ?_
  refine gx_goto X 14 18 dJ0_isLatin1_aae02_14 rfl ?_
  refine gx_sub [] rfl ?_
  exact hk_18 1 μ
def fJ0_coder (i0 : Nat) (μ : Mm) : Aa := mm_lt (fun (x1 : Int32) (m2 : Mm) => mm_rg 0 1 x1 (some (x1, m2))) (fun (k_14 : Int32 → Mm → Aa) => if (1 : Int32) = 0 then (k_14 1 μ) else (k_14 0 μ))
abbrev rJ0_coder : Room := { frames := 0, cells := 0, slots := 0, locals := 0 }
set_option maxRecDepth 100000 in
set_option maxHeartbeats 8000000 in
theorem tJ0_coder {l : Launch} {D : va_G} {cA : Nat → ClassId} {adr : Nat → Nat} {tt sK sV : Nat → Nat} {qv : Value} (hJ : mm_J adr NX) (i0 : Nat) (hi0 : i0 < 3) (μ : Mm) : mm_Mi l D cA adr sX NX (mm_SX (mm_A adr NX) tt sK sV qv) yJ0_coder_7d493 cJ0_coder_7d493 1 (some .byte) rJ0_coder [.ref (sK i0)] μ (fJ0_coder i0 μ) := by
  refine mm_entryi hJ mm_okX (by decide) (Nat.le_of_ble_eq_true rfl) ⟨rfl, rfl⟩ (fun p e s m below meth c X hr => ?_)
  generalize ([.ref (sK i0)] : List Value).toArray = args at X ⊢
  refine gx_lv (lv' := [(0, .ref (sK i0))]) rfl ?_
  unfold fJ0_coder
  refine gx_getCS X 0 3 wf_J0_38 dJ0_coder_7d493_0 rfl ?_
  refine gx_jn (fun (k : Int32 → Mm → Aa) => ∀ (x1 : Int32) (m2 : Mm), mm_G p l e rJ0_coder s m args below meth c 1 D cA adr sX NX (mm_Qi D cA adr sX NX) m2 14 [] [.int x1] (k x1 m2)) ?_ (fun k_14 hk_14 => ?_)
  · intro x1 m2
    exact gx_bret X 14 hr dJ0_coder_7d493_14
  refine gx_if_eq X 3 13 6 dJ0_coder_7d493_3 rfl rfl ?_ ?_
  · refine gx_iconst X 13 14 (1) dJ0_coder_7d493_13 rfl ci_1 ?_
    refine gx_sub [] rfl ?_
    exact hk_14 1 μ
  refine gx_aload_n X 6 7 0 dJ0_coder_7d493_6 rfl rfl rfl ?_
  refine gx_strC X 7 10 i0 hi0 wf_J0_15 dJ0_coder_7d493_7 rfl ?_
  refine gx_goto X 10 14 dJ0_coder_7d493_10 rfl ?_
  refine gx_sub [] rfl ?_
  exact hk_14 0 μ
def fJ0_length (i0 : Nat) (μ : Mm) : Aa := mm_cl (fJ0_coder i0 μ) (fun (x1 : Int32) (m2 : Mm) => some ((Int32.ofNat (mm_len.getD i0 0)) >>> (x1 &&& 31), m2))
abbrev rJ0_length : Room := { frames := 1, cells := 0, slots := 0, locals := 20 }
set_option maxRecDepth 100000 in
set_option maxHeartbeats 8000000 in
theorem tJ0_length {l : Launch} {D : va_G} {cA : Nat → ClassId} {adr : Nat → Nat} {tt sK sV : Nat → Nat} {qv : Value} (hJ : mm_J adr NX) (i0 : Nat) (hi0 : i0 < 3) (μ : Mm) : mm_Mi l D cA adr sX NX (mm_SX (mm_A adr NX) tt sK sV qv) yJ0_length_8abf5 cJ0_length_8abf5 1 (some .int) rJ0_length [.ref (sK i0)] μ (fJ0_length i0 μ) := by
  refine mm_entryi hJ mm_okX (by decide) (Nat.le_of_ble_eq_true rfl) ⟨rfl, rfl⟩ (fun p e s m below meth c X hr => ?_)
  generalize ([.ref (sK i0)] : List Value).toArray = args at X ⊢
  refine gx_lv (lv' := [(0, .ref (sK i0))]) rfl ?_
  unfold fJ0_length
  refine gx_aload_n X 0 1 0 dJ0_length_8abf5_0 rfl rfl rfl ?_
  refine gx_strV X 1 4 i0 hi0 wf_J0_9 dJ0_length_8abf5_1 rfl ?_
  refine gx_blen X 4 5 i0 hi0 dJ0_length_8abf5_4 rfl ?_
  refine gx_aload_n X 5 6 0 dJ0_length_8abf5_5 rfl rfl rfl ?_
  refine gx_calliT X 6 9 i0 (rest := [.int (Int32.ofNat (mm_len.getD i0 0))]) (As := []) (tJ0_coder hJ i0 hi0 μ) hi0 wc_J0_coder_7d493 wl_J0_335 wi_J0_coder_7d493 ws_J0_coder_7d493 wn_J0 rfl hd_J0_coder_7d493 ⟨Nat.le_of_ble_eq_true rfl, Nat.le_of_ble_eq_true rfl⟩ ⟨rfl, rfl⟩ rfl rfl (Nat.le_of_ble_eq_true rfl) dJ0_length_8abf5_6 rfl (fun x1 m2 => ?_)
  refine gx_ishr X 9 10 dJ0_length_8abf5_9 rfl ?_
  exact gx_iret X 10 hr dJ0_length_8abf5_10
def fJ3_checkIndex (a0 : Int32) (a1 : Int32) (μ : Mm) : Aa := mm_lt (fun (m1 : Mm) => none) (fun (k_9 : Mm → Aa) => if a0 < 0 then none else (if a0 < a1 then (some (a0, μ)) else none))
abbrev rJ3_checkIndex : Room := { frames := 0, cells := 0, slots := 0, locals := 0 }
set_option maxRecDepth 100000 in
set_option maxHeartbeats 8000000 in
theorem tJ3_checkIndex {l : Launch} {D : va_G} {cA : Nat → ClassId} {adr : Nat → Nat} {tt sK sV : Nat → Nat} {qv : Value} (hJ : mm_J adr NX) (a0 : Int32) (a1 : Int32) (hqc : qv.category = 1) (μ : Mm) : mm_Mi l D cA adr sX NX (mm_SX (mm_A adr NX) tt sK sV qv) yJ3_checkIndex_8e157 cJ3_checkIndex_8e157 3 (some .int) rJ3_checkIndex [.int a0, .int a1, qv] μ (fJ3_checkIndex a0 a1 μ) := by
  refine mm_entryi hJ mm_okX (by decide) (by simp [lg_sl, hqc, show ∀ x : Int32, (Value.int x).category = 1 from fun _ => rfl]) ⟨rfl, rfl⟩ (fun p e s m below meth c X hr => ?_)
  generalize ([.int a0, .int a1, qv] : List Value).toArray = args at X ⊢
  refine gx_lv (lv' := [(0, .int a0), (1, .int a1), (2, qv)]) rfl ?_
  unfold fJ3_checkIndex
  refine gx_iload_n X 0 1 0 dJ3_checkIndex_8e157_0 rfl rfl rfl ?_
  refine gx_jn (fun (k : Mm → Aa) => ∀ (m1 : Mm), mm_G p l e rJ3_checkIndex s m args below meth c 3 D cA adr sX NX (mm_Qi D cA adr sX NX) m1 9 [(2, qv)] [] (k m1)) ?_ (fun k_9 hk_9 => ?_)
  · intro m1
    exact gx_none
  refine gx_if_lt X 1 9 4 dJ3_checkIndex_8e157_1 rfl rfl ?_ ?_
  · exact gx_none
  refine gx_iload_n X 4 5 0 dJ3_checkIndex_8e157_4 rfl rfl rfl ?_
  refine gx_iload_n X 5 6 1 dJ3_checkIndex_8e157_5 rfl rfl rfl ?_
  refine gx_icmp_lt X 6 16 9 dJ3_checkIndex_8e157_6 rfl rfl ?_ ?_
  · refine gx_iload_n X 16 17 0 dJ3_checkIndex_8e157_16 rfl rfl rfl ?_
    exact gx_iret X 17 hr dJ3_checkIndex_8e157_17
  exact gx_none
def fJ0_checkIndex (a0 : Int32) (a1 : Int32) (μ : Mm) : Aa := mm_cl (fJ3_checkIndex a0 a1 μ) (fun (x1 : Int32) (m2 : Mm) => some (0, m2))
abbrev rJ0_checkIndex : Room := { frames := 1, cells := 0, slots := 0, locals := 22 }
set_option maxRecDepth 100000 in
set_option maxHeartbeats 8000000 in
theorem tJ0_checkIndex {l : Launch} {D : va_G} {cA : Nat → ClassId} {adr : Nat → Nat} {tt sK sV : Nat → Nat} {qv : Value} (hJ : mm_J adr NX) (a0 : Int32) (a1 : Int32) (μ : Mm) : mm_Mv l D cA adr sX NX (mm_SX (mm_A adr NX) tt sK sV qv) yJ0_checkIndex_df160 cJ0_checkIndex_df160 2 none rJ0_checkIndex [.int a0, .int a1] μ (fJ0_checkIndex a0 a1 μ) := by
  refine mm_entryv hJ mm_okX (by decide) (Nat.le_of_ble_eq_true rfl) ⟨rfl, rfl⟩ (fun p e s m below meth c X hr => ?_)
  generalize ([.int a0, .int a1] : List Value).toArray = args at X ⊢
  refine gx_lv (lv' := [(0, .int a0), (1, .int a1)]) rfl ?_
  unfold fJ0_checkIndex
  refine gx_iload_n X 0 1 0 dJ0_checkIndex_df160_0 rfl rfl rfl ?_
  refine gx_iload_n X 1 2 1 dJ0_checkIndex_df160_1 rfl rfl rfl ?_
  refine gx_getQ X 2 5 wf_J0_1053 dJ0_checkIndex_df160_2 rfl ?_
  refine gx_calliS X 5 8 (rest := []) (As := [.int a0, .int a1, qv]) (tJ3_checkIndex hJ a0 a1 (mm_qc X) μ) wc_J3_checkIndex_8e157 wl_J0_1059 wt_J3_checkIndex_8e157 wn_J3 hd_J3_checkIndex_8e157 ⟨Nat.le_of_ble_eq_true rfl, Nat.le_of_ble_eq_true rfl⟩ ⟨rfl, rfl⟩ rfl rfl (Nat.le_of_ble_eq_true rfl) dJ0_checkIndex_df160_5 rfl (fun x1 m2 => ?_)
  refine gx_pop X 8 9 dJ0_checkIndex_df160_8 rfl rfl ?_
  exact gx_vret X 9 hr dJ0_checkIndex_df160_9
def fJ1_charAt (i0 : Nat) (a1 : Int32) (μ : Mm) : Aa := mm_cl (fJ0_checkIndex a1 (Int32.ofNat (mm_len.getD i0 0)) μ) (fun (x1 : Int32) (m2 : Mm) => mm_ck a1 (mm_len.getD i0 0) (mm_rg 0 65535 (((((mm_byt.getD i0 []).getD a1.toNatClampNeg 0) &&& 255).toUInt32 % 65536).toInt32) (some (((((mm_byt.getD i0 []).getD a1.toNatClampNeg 0) &&& 255).toUInt32 % 65536).toInt32, m2))))
abbrev rJ1_charAt : Room := { frames := 2, cells := 0, slots := 0, locals := 43 }
set_option maxRecDepth 100000 in
set_option maxHeartbeats 8000000 in
theorem tJ1_charAt {l : Launch} {D : va_G} {cA : Nat → ClassId} {adr : Nat → Nat} {tt sK sV : Nat → Nat} {qv : Value} (hJ : mm_J adr NX) (i0 : Nat) (a1 : Int32) (hi0 : i0 < 3) (μ : Mm) : mm_Mi l D cA adr sX NX (mm_SX (mm_A adr NX) tt sK sV qv) yJ1_charAt_3b067 cJ1_charAt_3b067 2 (some .char) rJ1_charAt [.ref (sV i0), .int a1] μ (fJ1_charAt i0 a1 μ) := by
  refine mm_entryi hJ mm_okX (by decide) (Nat.le_of_ble_eq_true rfl) ⟨rfl, rfl⟩ (fun p e s m below meth c X hr => ?_)
  generalize ([.ref (sV i0), .int a1] : List Value).toArray = args at X ⊢
  refine gx_lv (lv' := [(0, .ref (sV i0)), (1, .int a1)]) rfl ?_
  unfold fJ1_charAt
  refine gx_iload_n X 0 1 1 dJ1_charAt_3b067_0 rfl rfl rfl ?_
  refine gx_aload_n X 1 2 0 dJ1_charAt_3b067_1 rfl rfl rfl ?_
  refine gx_blen X 2 3 i0 hi0 dJ1_charAt_3b067_2 rfl ?_
  refine gx_callvS X 3 6 (rest := []) (As := [.int a1, .int (Int32.ofNat (mm_len.getD i0 0))]) (tJ0_checkIndex hJ a1 (Int32.ofNat (mm_len.getD i0 0)) μ) wc_J0_checkIndex_df160 wl_J1_9 wt_J0_checkIndex_df160 wn_J0 hd_J0_checkIndex_df160 ⟨Nat.le_of_ble_eq_true rfl, Nat.le_of_ble_eq_true rfl⟩ ⟨rfl, rfl⟩ rfl rfl (Nat.le_of_ble_eq_true rfl) dJ1_charAt_3b067_3 rfl (fun x1 m2 => ?_)
  refine gx_aload_n X 6 7 0 dJ1_charAt_3b067_6 rfl rfl rfl ?_
  refine gx_iload_n X 7 8 1 dJ1_charAt_3b067_7 rfl rfl rfl ?_
  refine gx_bald X 8 9 i0 hi0 dJ1_charAt_3b067_8 rfl ?_
  refine gx_sipush X 9 12 (255) dJ1_charAt_3b067_9 rfl cs_255 ?_
  refine gx_iand X 12 13 dJ1_charAt_3b067_12 rfl ?_
  refine gx_i2c X 13 14 dJ1_charAt_3b067_13 rfl ?_
  exact gx_cret X 14 hr dJ1_charAt_3b067_14
def fJ0_charAt (i0 : Nat) (a1 : Int32) (μ : Mm) : Aa := mm_cl (fJ0_isLatin1 i0 μ) (fun (x1 : Int32) (m2 : Mm) => if x1 = 0 then none else (mm_cl (fJ1_charAt i0 a1 m2) (fun (x3 : Int32) (m4 : Mm) => mm_rg 0 65535 x3 (some (x3, m4)))))
abbrev rJ0_charAt : Room := { frames := 3, cells := 0, slots := 0, locals := 64 }
set_option maxRecDepth 100000 in
set_option maxHeartbeats 8000000 in
theorem tJ0_charAt {l : Launch} {D : va_G} {cA : Nat → ClassId} {adr : Nat → Nat} {tt sK sV : Nat → Nat} {qv : Value} (hJ : mm_J adr NX) (i0 : Nat) (a1 : Int32) (hi0 : i0 < 3) (μ : Mm) : mm_Mi l D cA adr sX NX (mm_SX (mm_A adr NX) tt sK sV qv) yJ0_charAt_5068e cJ0_charAt_5068e 2 (some .char) rJ0_charAt [.ref (sK i0), .int a1] μ (fJ0_charAt i0 a1 μ) := by
  refine mm_entryi hJ mm_okX (by decide) (Nat.le_of_ble_eq_true rfl) ⟨rfl, rfl⟩ (fun p e s m below meth c X hr => ?_)
  generalize ([.ref (sK i0), .int a1] : List Value).toArray = args at X ⊢
  refine gx_lv (lv' := [(0, .ref (sK i0)), (1, .int a1)]) rfl ?_
  unfold fJ0_charAt
  refine gx_aload_n X 0 1 0 dJ0_charAt_5068e_0 rfl rfl rfl ?_
  refine gx_calliT X 1 4 i0 (rest := []) (As := []) (tJ0_isLatin1 hJ i0 hi0 μ) hi0 wc_J0_isLatin1_aae02 wl_J0_492 wi_J0_isLatin1_aae02 ws_J0_isLatin1_aae02 wn_J0 rfl hd_J0_isLatin1_aae02 ⟨Nat.le_of_ble_eq_true rfl, Nat.le_of_ble_eq_true rfl⟩ ⟨rfl, rfl⟩ rfl rfl (Nat.le_of_ble_eq_true rfl) dJ0_charAt_5068e_1 rfl (fun x1 m2 => ?_)
  refine gx_if_eq X 4 16 7 dJ0_charAt_5068e_4 rfl rfl ?_ ?_
  · exact gx_none
  refine gx_aload_n X 7 8 0 dJ0_charAt_5068e_7 rfl rfl rfl ?_
  refine gx_strV X 8 11 i0 hi0 wf_J0_9 dJ0_charAt_5068e_8 rfl ?_
  refine gx_iload_n X 11 12 1 dJ0_charAt_5068e_11 rfl rfl rfl ?_
  refine gx_calliS X 12 15 (rest := []) (As := [.ref (sV i0), .int a1]) (tJ1_charAt hJ i0 a1 hi0 m2) wc_J1_charAt_3b067 wl_J0_495 wt_J1_charAt_3b067 wn_J1 hd_J1_charAt_3b067 ⟨Nat.le_of_ble_eq_true rfl, Nat.le_of_ble_eq_true rfl⟩ ⟨rfl, rfl⟩ rfl rfl (Nat.le_of_ble_eq_true rfl) dJ0_charAt_5068e_12 rfl (fun x3 m4 => ?_)
  exact gx_cret X 15 hr dJ0_charAt_5068e_15
def fJ1_canEncode (a0 : Int32) (μ : Mm) : Aa := mm_lt (fun (x1 : Int32) (m2 : Mm) => mm_bo x1 (some (x1, m2))) (fun (k_16 : Int32 → Mm → Aa) => mm_lt (fun (m3 : Mm) => k_16 0 m3) (fun (k_15 : Mm → Aa) => if a0 < 0 then (k_15 μ) else (if 255 < a0 then (k_15 μ) else (k_16 1 μ))))
abbrev rJ1_canEncode : Room := { frames := 0, cells := 0, slots := 0, locals := 0 }
set_option maxRecDepth 100000 in
set_option maxHeartbeats 8000000 in
theorem tJ1_canEncode {l : Launch} {D : va_G} {cA : Nat → ClassId} {adr : Nat → Nat} {tt sK sV : Nat → Nat} {qv : Value} (hJ : mm_J adr NX) (a0 : Int32) (μ : Mm) : mm_Mi l D cA adr sX NX (mm_SX (mm_A adr NX) tt sK sV qv) yJ1_canEncode_9a6ad cJ1_canEncode_9a6ad 1 (some .boolean) rJ1_canEncode [.int a0] μ (fJ1_canEncode a0 μ) := by
  refine mm_entryi hJ mm_okX (by decide) (Nat.le_of_ble_eq_true rfl) ⟨rfl, rfl⟩ (fun p e s m below meth c X hr => ?_)
  generalize ([.int a0] : List Value).toArray = args at X ⊢
  refine gx_lv (lv' := [(0, .int a0)]) rfl ?_
  unfold fJ1_canEncode
  refine gx_iload_n X 0 1 0 dJ1_canEncode_9a6ad_0 rfl rfl rfl ?_
  refine gx_jn (fun (k : Int32 → Mm → Aa) => ∀ (x1 : Int32) (m2 : Mm), mm_G p l e rJ1_canEncode s m args below meth c 1 D cA adr sX NX (mm_Qi D cA adr sX NX) m2 16 [] [.int x1] (k x1 m2)) ?_ (fun k_16 hk_16 => ?_)
  · intro x1 m2
    exact gx_zret X 16 hr dJ1_canEncode_9a6ad_16
  refine gx_jn (fun (k : Mm → Aa) => ∀ (m3 : Mm), mm_G p l e rJ1_canEncode s m args below meth c 1 D cA adr sX NX (mm_Qi D cA adr sX NX) m3 15 [] [] (k m3)) ?_ (fun k_15 hk_15 => ?_)
  · intro m3
    refine gx_iconst X 15 16 (0) dJ1_canEncode_9a6ad_15 rfl ci_0 ?_
    exact hk_16 0 m3
  refine gx_if_lt X 1 15 4 dJ1_canEncode_9a6ad_1 rfl rfl ?_ ?_
  · refine gx_sub [] rfl ?_
    exact hk_15 μ
  refine gx_iload_n X 4 5 0 dJ1_canEncode_9a6ad_4 rfl rfl rfl ?_
  refine gx_sipush X 5 8 (255) dJ1_canEncode_9a6ad_5 rfl cs_255 ?_
  refine gx_icmp_gt X 8 15 11 dJ1_canEncode_9a6ad_8 rfl rfl ?_ ?_
  · refine gx_sub [] rfl ?_
    exact hk_15 μ
  refine gx_iconst X 11 12 (1) dJ1_canEncode_9a6ad_11 rfl ci_1 ?_
  refine gx_goto X 12 16 dJ1_canEncode_9a6ad_12 rfl ?_
  refine gx_sub [] rfl ?_
  exact hk_16 1 μ
def fJ1_indexOfChar_L7 (a3 : Int32) (i0 : Nat) (x1 : Int32) (k_22 : Int32 → Mm → Aa) (k_31 : Mm → Aa) (rec_7 : Int32 → Mm → Aa) (x6 : Int32) (m7 : Mm) : Aa := if a3 ≤ x6 then (k_31 m7) else (mm_ck x6 (mm_len.getD i0 0) (if ((mm_byt.getD i0 []).getD x6.toNatClampNeg 0) = x1 then (k_22 x6 m7) else (mm_lt (x6 + 1) (fun (x8 : Int32) => rec_7 x8 m7))))
def fJ1_indexOfChar (i0 : Nat) (a1 : Int32) (a2 : Int32) (a3 : Int32) (μ : Mm) : Aa := mm_lt a1.toInt8.toInt32 (fun (x1 : Int32) => mm_lt a2 (fun (x2 : Int32) => mm_lt (fun (m3 : Mm) => some ((-1), m3)) (fun (k_31 : Mm → Aa) => mm_lt (fun (x4 : Int32) (m5 : Mm) => some (x4, m5)) (fun (k_22 : Int32 → Mm → Aa) => mm_lk (fun (_ : Int32) (_ : Mm) => (none : Aa)) (fJ1_indexOfChar_L7 a3 i0 x1 k_22 k_31) mm_fu x2 μ))))
abbrev rJ1_indexOfChar : Room := { frames := 0, cells := 0, slots := 0, locals := 0 }
set_option maxRecDepth 100000 in
set_option maxHeartbeats 8000000 in
theorem tJ1_indexOfChar {l : Launch} {D : va_G} {cA : Nat → ClassId} {adr : Nat → Nat} {tt sK sV : Nat → Nat} {qv : Value} (hJ : mm_J adr NX) (i0 : Nat) (a1 : Int32) (a2 : Int32) (a3 : Int32) (hi0 : i0 < 3) (μ : Mm) : mm_Mi l D cA adr sX NX (mm_SX (mm_A adr NX) tt sK sV qv) yJ1_indexOfChar_4cfef cJ1_indexOfChar_4cfef 6 (some .int) rJ1_indexOfChar [.ref (sV i0), .int a1, .int a2, .int a3] μ (fJ1_indexOfChar i0 a1 a2 a3 μ) := by
  refine mm_entryi hJ mm_okX (by decide) (Nat.le_of_ble_eq_true rfl) ⟨rfl, rfl⟩ (fun p e s m below meth c X hr => ?_)
  generalize ([.ref (sV i0), .int a1, .int a2, .int a3] : List Value).toArray = args at X ⊢
  refine gx_lv (lv' := [(0, .ref (sV i0)), (1, .int a1), (2, .int a2), (3, .int a3)]) rfl ?_
  unfold fJ1_indexOfChar
  refine gx_iload_n X 0 1 1 dJ1_indexOfChar_4cfef_0 rfl rfl rfl ?_
  refine gx_i2b X 1 2 dJ1_indexOfChar_4cfef_1 rfl ?_
  refine gx_istore X 2 4 (fun x1 => [(4, .int x1), (0, .ref (sV i0)), (1, .int a1), (2, .int a2), (3, .int a3)]) dJ1_indexOfChar_4cfef_2 rfl (by decide) (fun _ => rfl) (fun x1 => ?_)
  refine gx_iload_n X 4 5 3 dJ1_indexOfChar_4cfef_4 rfl rfl rfl ?_
  refine gx_istore X 5 7 (fun x2 => [(5, .int x2), (4, .int x1), (0, .ref (sV i0)), (1, .int a1), (2, .int a2), (3, .int a3)]) dJ1_indexOfChar_4cfef_5 rfl (by decide) (fun _ => rfl) (fun x2 => ?_)
  refine gx_jn (fun (k : Mm → Aa) => ∀ (m3 : Mm), mm_G p l e rJ1_indexOfChar s m args below meth c 6 D cA adr sX NX (mm_Qi D cA adr sX NX) m3 31 [] [] (k m3)) ?_ (fun k_31 hk_31 => ?_)
  · intro m3
    refine gx_iconst X 31 32 (-1) dJ1_indexOfChar_4cfef_31 rfl ci_m1 ?_
    exact gx_iret X 32 hr dJ1_indexOfChar_4cfef_32
  refine gx_jn (fun (k : Int32 → Mm → Aa) => ∀ (x4 : Int32) (m5 : Mm), mm_G p l e rJ1_indexOfChar s m args below meth c 6 D cA adr sX NX (mm_Qi D cA adr sX NX) m5 22 [(5, .int x4)] [] (k x4 m5)) ?_ (fun k_22 hk_22 => ?_)
  · intro x4 m5
    refine gx_iload X 22 24 0 dJ1_indexOfChar_4cfef_22 rfl rfl ?_
    exact gx_iret X 24 hr dJ1_indexOfChar_4cfef_24
  refine gx_sub [2, 5, 1, 0] rfl ?_
  refine mm_lk_ind (fun (rec : Int32 → Mm → Aa) => ∀ (x6 : Int32) (m7 : Mm), mm_G p l e rJ1_indexOfChar s m args below meth c 6 D cA adr sX NX (mm_Qi D cA adr sX NX) m7 7 [(0, .ref (sV i0)), (3, .int a3), (4, .int x1), (5, .int x6)] [] (rec x6 m7)) (fun _ _ => gx_none) (fun rec_7 hr_7 x6 m7 => ?_) mm_fu x2 μ
  unfold fJ1_indexOfChar_L7
  refine gx_iload X 7 9 3 dJ1_indexOfChar_4cfef_7 rfl rfl ?_
  refine gx_iload_n X 9 10 1 dJ1_indexOfChar_4cfef_9 rfl rfl rfl ?_
  refine gx_icmp_ge X 10 31 13 dJ1_indexOfChar_4cfef_10 rfl rfl ?_ ?_
  · refine gx_sub [] rfl ?_
    exact hk_31 m7
  refine gx_aload_n X 13 14 0 dJ1_indexOfChar_4cfef_13 rfl rfl rfl ?_
  refine gx_iload X 14 16 3 dJ1_indexOfChar_4cfef_14 rfl rfl ?_
  refine gx_bald X 16 17 i0 hi0 dJ1_indexOfChar_4cfef_16 rfl ?_
  refine gx_iload X 17 19 2 dJ1_indexOfChar_4cfef_17 rfl rfl ?_
  refine gx_icmp_ne X 19 25 22 dJ1_indexOfChar_4cfef_19 rfl rfl ?_ ?_
  · refine gx_iinc X 25 28 3 (1) (fun x8 => [(5, .int x8), (0, .ref (sV i0)), (3, .int a3), (4, .int x1)]) dJ1_indexOfChar_4cfef_25 rfl rfl ci_1 (by decide) (fun _ => rfl) (fun x8 => ?_)
    refine gx_goto X 28 7 dJ1_indexOfChar_4cfef_28 rfl ?_
    refine gx_sub [1, 2, 3, 0] rfl ?_
    exact hr_7 x8 m7
  refine gx_sub [3] rfl ?_
  exact hk_22 x6 m7
def fJ1_indexOf (i0 : Nat) (a1 : Int32) (a2 : Int32) (a3 : Int32) (μ : Mm) : Aa := mm_cl (fJ1_canEncode a1 μ) (fun (x1 : Int32) (m2 : Mm) => if x1 = 0 then (some ((-1), m2)) else (mm_lt (if a2 < 0 then 0 else a2) (fun (x3 : Int32) => mm_lt (if (Int32.ofNat (mm_len.getD i0 0)) < a3 then (Int32.ofNat (mm_len.getD i0 0)) else a3) (fun (x4 : Int32) => if x3 < x4 then (mm_cl (fJ1_indexOfChar i0 a1 x3 x4 m2) (fun (x5 : Int32) (m6 : Mm) => some (x5, m6))) else (some ((-1), m2))))))
abbrev rJ1_indexOf : Room := { frames := 1, cells := 0, slots := 0, locals := 25 }
set_option maxRecDepth 100000 in
set_option maxHeartbeats 8000000 in
theorem tJ1_indexOf {l : Launch} {D : va_G} {cA : Nat → ClassId} {adr : Nat → Nat} {tt sK sV : Nat → Nat} {qv : Value} (hJ : mm_J adr NX) (i0 : Nat) (a1 : Int32) (a2 : Int32) (a3 : Int32) (hi0 : i0 < 3) (μ : Mm) : mm_Mi l D cA adr sX NX (mm_SX (mm_A adr NX) tt sK sV qv) yJ1_indexOf_4cfef cJ1_indexOf_4cfef 4 (some .int) rJ1_indexOf [.ref (sV i0), .int a1, .int a2, .int a3] μ (fJ1_indexOf i0 a1 a2 a3 μ) := by
  refine mm_entryi hJ mm_okX (by decide) (Nat.le_of_ble_eq_true rfl) ⟨rfl, rfl⟩ (fun p e s m below meth c X hr => ?_)
  generalize ([.ref (sV i0), .int a1, .int a2, .int a3] : List Value).toArray = args at X ⊢
  refine gx_lv (lv' := [(0, .ref (sV i0)), (1, .int a1), (2, .int a2), (3, .int a3)]) rfl ?_
  unfold fJ1_indexOf
  refine gx_iload_n X 0 1 1 dJ1_indexOf_4cfef_0 rfl rfl rfl ?_
  refine gx_calliS X 1 4 (rest := []) (As := [.int a1]) (tJ1_canEncode hJ a1 μ) wc_J1_canEncode_9a6ad wl_J1_88 wt_J1_canEncode_9a6ad wn_J1 hd_J1_canEncode_9a6ad ⟨Nat.le_of_ble_eq_true rfl, Nat.le_of_ble_eq_true rfl⟩ ⟨rfl, rfl⟩ rfl rfl (Nat.le_of_ble_eq_true rfl) dJ1_indexOf_4cfef_1 rfl (fun x1 m2 => ?_)
  refine gx_if_ne X 4 9 7 dJ1_indexOf_4cfef_4 rfl rfl ?_ ?_
  · refine gx_iload_n X 9 10 2 dJ1_indexOf_4cfef_9 rfl rfl rfl ?_
    refine gx_iconst X 10 11 (0) dJ1_indexOf_4cfef_10 rfl ci_0 ?_
    refine gx_mmax X 11 14 wl_J1_92 wt_Mmax wn_J9 wc_Mmax (by decide) (Nat.le_of_ble_eq_true rfl) dJ1_indexOf_4cfef_11 rfl ?_
    refine gx_istore_n X 14 15 (fun x3 => [(2, .int x3), (0, .ref (sV i0)), (1, .int a1), (3, .int a3)]) dJ1_indexOf_4cfef_14 rfl rfl (by decide) (fun _ => rfl) (fun x3 => ?_)
    refine gx_iload_n X 15 16 3 dJ1_indexOf_4cfef_15 rfl rfl rfl ?_
    refine gx_aload_n X 16 17 1 dJ1_indexOf_4cfef_16 rfl rfl rfl ?_
    refine gx_blen X 17 18 i0 hi0 dJ1_indexOf_4cfef_17 rfl ?_
    refine gx_mmin X 18 21 wl_J1_38 wt_Mmin wn_J9 wc_Mmin (by decide) (Nat.le_of_ble_eq_true rfl) dJ1_indexOf_4cfef_18 rfl ?_
    refine gx_istore_n X 21 22 (fun x4 => [(3, .int x4), (2, .int x3), (0, .ref (sV i0)), (1, .int a1)]) dJ1_indexOf_4cfef_21 rfl rfl (by decide) (fun _ => rfl) (fun x4 => ?_)
    refine gx_iload_n X 22 23 1 dJ1_indexOf_4cfef_22 rfl rfl rfl ?_
    refine gx_iload_n X 23 24 0 dJ1_indexOf_4cfef_23 rfl rfl rfl ?_
    refine gx_icmp_lt X 24 29 27 dJ1_indexOf_4cfef_24 rfl rfl ?_ ?_
    · refine gx_aload_n X 29 30 2 dJ1_indexOf_4cfef_29 rfl rfl rfl ?_
      refine gx_iload_n X 30 31 3 dJ1_indexOf_4cfef_30 rfl rfl rfl ?_
      refine gx_iload_n X 31 32 1 dJ1_indexOf_4cfef_31 rfl rfl rfl ?_
      refine gx_iload_n X 32 33 0 dJ1_indexOf_4cfef_32 rfl rfl rfl ?_
      refine gx_calliS X 33 36 (rest := []) (As := [.ref (sV i0), .int a1, .int x3, .int x4]) (tJ1_indexOfChar hJ i0 a1 x3 x4 hi0 m2) wc_J1_indexOfChar_4cfef wl_J1_95 wt_J1_indexOfChar_4cfef wn_J1 hd_J1_indexOfChar_4cfef ⟨Nat.le_of_ble_eq_true rfl, Nat.le_of_ble_eq_true rfl⟩ ⟨rfl, rfl⟩ rfl rfl (Nat.le_of_ble_eq_true rfl) dJ1_indexOf_4cfef_33 rfl (fun x5 m6 => ?_)
      exact gx_iret X 36 hr dJ1_indexOf_4cfef_36
    refine gx_iconst X 27 28 (-1) dJ1_indexOf_4cfef_27 rfl ci_m1 ?_
    exact gx_iret X 28 hr dJ1_indexOf_4cfef_28
  refine gx_iconst X 7 8 (-1) dJ1_indexOf_4cfef_7 rfl ci_m1 ?_
  exact gx_iret X 8 hr dJ1_indexOf_4cfef_8
def fJ0_indexOf2 (i0 : Nat) (a1 : Int32) (a2 : Int32) (μ : Mm) : Aa := mm_cl (fJ0_isLatin1 i0 μ) (fun (x1 : Int32) (m2 : Mm) => if x1 = 0 then none else (mm_cl (fJ0_length i0 m2) (fun (x3 : Int32) (m4 : Mm) => mm_cl (fJ1_indexOf i0 a1 a2 x3 m4) (fun (x5 : Int32) (m6 : Mm) => some (x5, m6)))))
abbrev rJ0_indexOf2 : Room := { frames := 2, cells := 0, slots := 0, locals := 48 }
set_option maxRecDepth 100000 in
set_option maxHeartbeats 8000000 in
theorem tJ0_indexOf2 {l : Launch} {D : va_G} {cA : Nat → ClassId} {adr : Nat → Nat} {tt sK sV : Nat → Nat} {qv : Value} (hJ : mm_J adr NX) (i0 : Nat) (a1 : Int32) (a2 : Int32) (hi0 : i0 < 3) (μ : Mm) : mm_Mi l D cA adr sX NX (mm_SX (mm_A adr NX) tt sK sV qv) yJ0_indexOf_7cf53 cJ0_indexOf_7cf53 3 (some .int) rJ0_indexOf2 [.ref (sK i0), .int a1, .int a2] μ (fJ0_indexOf2 i0 a1 a2 μ) := by
  refine mm_entryi hJ mm_okX (by decide) (Nat.le_of_ble_eq_true rfl) ⟨rfl, rfl⟩ (fun p e s m below meth c X hr => ?_)
  generalize ([.ref (sK i0), .int a1, .int a2] : List Value).toArray = args at X ⊢
  refine gx_lv (lv' := [(0, .ref (sK i0)), (1, .int a1), (2, .int a2)]) rfl ?_
  unfold fJ0_indexOf2
  refine gx_aload_n X 0 1 0 dJ0_indexOf_7cf53_0 rfl rfl rfl ?_
  refine gx_calliT X 1 4 i0 (rest := []) (As := []) (tJ0_isLatin1 hJ i0 hi0 μ) hi0 wc_J0_isLatin1_aae02 wl_J0_492 wi_J0_isLatin1_aae02 ws_J0_isLatin1_aae02 wn_J0 rfl hd_J0_isLatin1_aae02 ⟨Nat.le_of_ble_eq_true rfl, Nat.le_of_ble_eq_true rfl⟩ ⟨rfl, rfl⟩ rfl rfl (Nat.le_of_ble_eq_true rfl) dJ0_indexOf_7cf53_1 rfl (fun x1 m2 => ?_)
  refine gx_if_eq X 4 23 7 dJ0_indexOf_7cf53_4 rfl rfl ?_ ?_
  · exact gx_none
  refine gx_aload_n X 7 8 0 dJ0_indexOf_7cf53_7 rfl rfl rfl ?_
  refine gx_strV X 8 11 i0 hi0 wf_J0_9 dJ0_indexOf_7cf53_8 rfl ?_
  refine gx_iload_n X 11 12 1 dJ0_indexOf_7cf53_11 rfl rfl rfl ?_
  refine gx_iload_n X 12 13 2 dJ0_indexOf_7cf53_12 rfl rfl rfl ?_
  refine gx_aload_n X 13 14 0 dJ0_indexOf_7cf53_13 rfl rfl rfl ?_
  refine gx_calliT X 14 17 i0 (rest := [.int a2, .int a1, .ref (sV i0)]) (As := []) (tJ0_length hJ i0 hi0 m2) hi0 wc_J0_length_8abf5 wl_J0_505 wi_J0_length_8abf5 ws_J0_length_8abf5 wn_J0 rfl hd_J0_length_8abf5 ⟨Nat.le_of_ble_eq_true rfl, Nat.le_of_ble_eq_true rfl⟩ ⟨rfl, rfl⟩ rfl rfl (Nat.le_of_ble_eq_true rfl) dJ0_indexOf_7cf53_14 rfl (fun x3 m4 => ?_)
  refine gx_calliS X 17 20 (rest := []) (As := [.ref (sV i0), .int a1, .int a2, .int x3]) (tJ1_indexOf hJ i0 a1 a2 x3 hi0 m4) wc_J1_indexOf_4cfef wl_J0_637 wt_J1_indexOf_4cfef wn_J1 hd_J1_indexOf_4cfef ⟨Nat.le_of_ble_eq_true rfl, Nat.le_of_ble_eq_true rfl⟩ ⟨rfl, rfl⟩ rfl rfl (Nat.le_of_ble_eq_true rfl) dJ0_indexOf_7cf53_17 rfl (fun x5 m6 => ?_)
  refine gx_goto X 20 36 dJ0_indexOf_7cf53_20 rfl ?_
  exact gx_iret X 36 hr dJ0_indexOf_7cf53_36
def fJ0_indexOf (i0 : Nat) (a1 : Int32) (μ : Mm) : Aa := mm_cl (fJ0_indexOf2 i0 a1 0 μ) (fun (x1 : Int32) (m2 : Mm) => some (x1, m2))
abbrev rJ0_indexOf : Room := { frames := 3, cells := 0, slots := 0, locals := 70 }
set_option maxRecDepth 100000 in
set_option maxHeartbeats 8000000 in
theorem tJ0_indexOf {l : Launch} {D : va_G} {cA : Nat → ClassId} {adr : Nat → Nat} {tt sK sV : Nat → Nat} {qv : Value} (hJ : mm_J adr NX) (i0 : Nat) (a1 : Int32) (hi0 : i0 < 3) (μ : Mm) : mm_Mi l D cA adr sX NX (mm_SX (mm_A adr NX) tt sK sV qv) yJ0_indexOf_0f7a4 cJ0_indexOf_0f7a4 2 (some .int) rJ0_indexOf [.ref (sK i0), .int a1] μ (fJ0_indexOf i0 a1 μ) := by
  refine mm_entryi hJ mm_okX (by decide) (Nat.le_of_ble_eq_true rfl) ⟨rfl, rfl⟩ (fun p e s m below meth c X hr => ?_)
  generalize ([.ref (sK i0), .int a1] : List Value).toArray = args at X ⊢
  refine gx_lv (lv' := [(0, .ref (sK i0)), (1, .int a1)]) rfl ?_
  unfold fJ0_indexOf
  refine gx_aload_n X 0 1 0 dJ0_indexOf_0f7a4_0 rfl rfl rfl ?_
  refine gx_iload_n X 1 2 1 dJ0_indexOf_0f7a4_1 rfl rfl rfl ?_
  refine gx_iconst X 2 3 (0) dJ0_indexOf_0f7a4_2 rfl ci_0 ?_
  refine gx_calliT X 3 6 i0 (rest := []) (As := [.int a1, .int 0]) (tJ0_indexOf2 hJ i0 a1 0 hi0 μ) hi0 wc_J0_indexOf_7cf53 wl_J0_633 wi_J0_indexOf_7cf53 ws_J0_indexOf_7cf53 wn_J0 rfl hd_J0_indexOf_7cf53 ⟨Nat.le_of_ble_eq_true rfl, Nat.le_of_ble_eq_true rfl⟩ ⟨rfl, rfl⟩ rfl rfl (Nat.le_of_ble_eq_true rfl) dJ0_indexOf_0f7a4_3 rfl (fun x1 m2 => ?_)
  exact gx_iret X 6 hr dJ0_indexOf_0f7a4_6
def fX6_isWithin (a0 : Int32) (a1 : Int32) (μ : Mm) : Aa := mm_lt (fun (x1 : Int32) (m2 : Mm) => mm_bo x1 (some (x1, m2))) (fun (k_14 : Int32 → Mm → Aa) => mm_lt (fun (m3 : Mm) => k_14 0 m3) (fun (k_13 : Mm → Aa) => if a0 < 0 then (k_13 μ) else (if a1 ≤ a0 then (k_13 μ) else (k_14 1 μ))))
abbrev rX6_isWithin : Room := { frames := 0, cells := 0, slots := 0, locals := 0 }
set_option maxRecDepth 100000 in
set_option maxHeartbeats 8000000 in
theorem tX6_isWithin {l : Launch} {D : va_G} {cA : Nat → ClassId} {adr : Nat → Nat} {tt sK sV : Nat → Nat} {qv : Value} (hJ : mm_J adr NX) (a0 : Int32) (a1 : Int32) (μ : Mm) : mm_Mi l D cA adr sX NX (mm_SX (mm_A adr NX) tt sK sV qv) yX6_isWithin cX6_isWithin 2 (some .boolean) rX6_isWithin [.int a0, .int a1] μ (fX6_isWithin a0 a1 μ) := by
  refine mm_entryi hJ mm_okX (by decide) (Nat.le_of_ble_eq_true rfl) ⟨rfl, rfl⟩ (fun p e s m below meth c X hr => ?_)
  generalize ([.int a0, .int a1] : List Value).toArray = args at X ⊢
  refine gx_lv (lv' := [(0, .int a0), (1, .int a1)]) rfl ?_
  unfold fX6_isWithin
  refine gx_iload_n X 0 1 0 dX6_isWithin_0 rfl rfl rfl ?_
  refine gx_jn (fun (k : Int32 → Mm → Aa) => ∀ (x1 : Int32) (m2 : Mm), mm_G p l e rX6_isWithin s m args below meth c 2 D cA adr sX NX (mm_Qi D cA adr sX NX) m2 14 [] [.int x1] (k x1 m2)) ?_ (fun k_14 hk_14 => ?_)
  · intro x1 m2
    exact gx_zret X 14 hr dX6_isWithin_14
  refine gx_jn (fun (k : Mm → Aa) => ∀ (m3 : Mm), mm_G p l e rX6_isWithin s m args below meth c 2 D cA adr sX NX (mm_Qi D cA adr sX NX) m3 13 [] [] (k m3)) ?_ (fun k_13 hk_13 => ?_)
  · intro m3
    refine gx_iconst X 13 14 (0) dX6_isWithin_13 rfl ci_0 ?_
    exact hk_14 0 m3
  refine gx_if_lt X 1 13 4 dX6_isWithin_1 rfl rfl ?_ ?_
  · refine gx_sub [] rfl ?_
    exact hk_13 μ
  refine gx_iload_n X 4 5 0 dX6_isWithin_4 rfl rfl rfl ?_
  refine gx_iload_n X 5 6 1 dX6_isWithin_5 rfl rfl rfl ?_
  refine gx_icmp_ge X 6 13 9 dX6_isWithin_6 rfl rfl ?_ ?_
  · refine gx_sub [] rfl ?_
    exact hk_13 μ
  refine gx_iconst X 9 10 (1) dX6_isWithin_9 rfl ci_1 ?_
  refine gx_goto X 10 14 dX6_isWithin_10 rfl ?_
  refine gx_sub [] rfl ?_
  exact hk_14 1 μ
def fX6_lowByte (a0 : Int64) (a1 : Int32) (μ : Mm) : Aa := some (((a0 >>> ((8 * a1).toInt64 &&& 63)).toInt32) &&& 255, μ)
abbrev rX6_lowByte : Room := { frames := 0, cells := 0, slots := 0, locals := 0 }
set_option maxRecDepth 100000 in
set_option maxHeartbeats 8000000 in
theorem tX6_lowByte {l : Launch} {D : va_G} {cA : Nat → ClassId} {adr : Nat → Nat} {tt sK sV : Nat → Nat} {qv : Value} (hJ : mm_J adr NX) (a0 : Int64) (a1 : Int32) (μ : Mm) : mm_Mi l D cA adr sX NX (mm_SX (mm_A adr NX) tt sK sV qv) yX6_lowByte cX6_lowByte 3 (some .int) rX6_lowByte [.long a0, .int a1] μ (fX6_lowByte a0 a1 μ) := by
  refine mm_entryi hJ mm_okX (by decide) (Nat.le_of_ble_eq_true rfl) ⟨rfl, rfl⟩ (fun p e s m below meth c X hr => ?_)
  generalize ([.long a0, .int a1] : List Value).toArray = args at X ⊢
  refine gx_lv (lv' := [(0, .long a0), (2, .int a1)]) rfl ?_
  unfold fX6_lowByte
  refine gx_lload_n X 0 1 0 dX6_lowByte_0 rfl rfl rfl ?_
  refine gx_bipush X 1 3 (8) dX6_lowByte_1 rfl cb_8 ?_
  refine gx_iload_n X 3 4 1 dX6_lowByte_3 rfl rfl rfl ?_
  refine gx_imul X 4 5 dX6_lowByte_4 rfl ?_
  refine gx_lshr X 5 6 dX6_lowByte_5 rfl ?_
  refine gx_l2i X 6 7 dX6_lowByte_6 rfl ?_
  refine gx_sipush X 7 10 (255) dX6_lowByte_7 rfl cs_255 ?_
  refine gx_iand X 10 11 dX6_lowByte_10 rfl ?_
  exact gx_iret X 11 hr dX6_lowByte_11
def fX6_cutUp (a0 : Int32) (a1 : Int32) (μ : Mm) : Aa := mm_lt (fun (x1 : Int32) (m2 : Mm) => some (x1, m2)) (fun (k_16 : Int32 → Mm → Aa) => if 1 ≤ a1 then (mm_nz a1 (k_16 (((a0 + a1) - 1) / a1) μ)) else (k_16 0 μ))
abbrev rX6_cutUp : Room := { frames := 0, cells := 0, slots := 0, locals := 0 }
set_option maxRecDepth 100000 in
set_option maxHeartbeats 8000000 in
theorem tX6_cutUp {l : Launch} {D : va_G} {cA : Nat → ClassId} {adr : Nat → Nat} {tt sK sV : Nat → Nat} {qv : Value} (hJ : mm_J adr NX) (a0 : Int32) (a1 : Int32) (μ : Mm) : mm_Mi l D cA adr sX NX (mm_SX (mm_A adr NX) tt sK sV qv) yX6_cutUp cX6_cutUp 2 (some .int) rX6_cutUp [.int a0, .int a1] μ (fX6_cutUp a0 a1 μ) := by
  refine mm_entryi hJ mm_okX (by decide) (Nat.le_of_ble_eq_true rfl) ⟨rfl, rfl⟩ (fun p e s m below meth c X hr => ?_)
  generalize ([.int a0, .int a1] : List Value).toArray = args at X ⊢
  refine gx_lv (lv' := [(0, .int a0), (1, .int a1)]) rfl ?_
  unfold fX6_cutUp
  refine gx_iload_n X 0 1 1 dX6_cutUp_0 rfl rfl rfl ?_
  refine gx_iconst X 1 2 (1) dX6_cutUp_1 rfl ci_1 ?_
  refine gx_jn (fun (k : Int32 → Mm → Aa) => ∀ (x1 : Int32) (m2 : Mm), mm_G p l e rX6_cutUp s m args below meth c 2 D cA adr sX NX (mm_Qi D cA adr sX NX) m2 16 [] [.int x1] (k x1 m2)) ?_ (fun k_16 hk_16 => ?_)
  · intro x1 m2
    exact gx_iret X 16 hr dX6_cutUp_16
  refine gx_icmp_ge X 2 9 5 dX6_cutUp_2 rfl rfl ?_ ?_
  · refine gx_iload_n X 9 10 0 dX6_cutUp_9 rfl rfl rfl ?_
    refine gx_iload_n X 10 11 1 dX6_cutUp_10 rfl rfl rfl ?_
    refine gx_iadd X 11 12 dX6_cutUp_11 rfl ?_
    refine gx_iconst X 12 13 (1) dX6_cutUp_12 rfl ci_1 ?_
    refine gx_isub X 13 14 dX6_cutUp_13 rfl ?_
    refine gx_iload_n X 14 15 1 dX6_cutUp_14 rfl rfl rfl ?_
    refine gx_idiv X 15 16 dX6_cutUp_15 rfl ?_
    refine gx_sub [] rfl ?_
    exact hk_16 (((a0 + a1) - 1) / a1) μ
  refine gx_iconst X 5 6 (0) dX6_cutUp_5 rfl ci_0 ?_
  refine gx_goto X 6 16 dX6_cutUp_6 rfl ?_
  refine gx_sub [] rfl ?_
  exact hk_16 0 μ
def fX6_half (a0 : Int32) (μ : Mm) : Aa := mm_nz 2 (some (if 1 < (a0 / 2) then (a0 / 2) else 1, μ))
abbrev rX6_half : Room := { frames := 1, cells := 0, slots := 0, locals := 21 }
set_option maxRecDepth 100000 in
set_option maxHeartbeats 8000000 in
theorem tX6_half {l : Launch} {D : va_G} {cA : Nat → ClassId} {adr : Nat → Nat} {tt sK sV : Nat → Nat} {qv : Value} (hJ : mm_J adr NX) (a0 : Int32) (μ : Mm) : mm_Mi l D cA adr sX NX (mm_SX (mm_A adr NX) tt sK sV qv) yX6_half cX6_half 1 (some .int) rX6_half [.int a0] μ (fX6_half a0 μ) := by
  refine mm_entryi hJ mm_okX (by decide) (Nat.le_of_ble_eq_true rfl) ⟨rfl, rfl⟩ (fun p e s m below meth c X hr => ?_)
  generalize ([.int a0] : List Value).toArray = args at X ⊢
  refine gx_lv (lv' := [(0, .int a0)]) rfl ?_
  unfold fX6_half
  refine gx_iconst X 0 1 (1) dX6_half_0 rfl ci_1 ?_
  refine gx_iload_n X 1 2 0 dX6_half_1 rfl rfl rfl ?_
  refine gx_iconst X 2 3 (2) dX6_half_2 rfl ci_2 ?_
  refine gx_idiv X 3 4 dX6_half_3 rfl ?_
  refine gx_mmax X 4 7 wl_X6_221 wt_Mmax wn_J9 wc_Mmax (by decide) (Nat.le_of_ble_eq_true rfl) dX6_half_4 rfl ?_
  exact gx_iret X 7 hr dX6_half_7
def fJ6_bitCount (a0 : Int32) (μ : Mm) : Aa := mm_lt (a0 - (((a0.toUInt32 >>> ((1 : Int32).toUInt32 &&& Int32.toUInt32 31)).toInt32) &&& 1431655765)) (fun (x1 : Int32) => mm_lt ((x1 &&& 858993459) + (((x1.toUInt32 >>> ((2 : Int32).toUInt32 &&& Int32.toUInt32 31)).toInt32) &&& 858993459)) (fun (x2 : Int32) => mm_lt ((x2 + ((x2.toUInt32 >>> ((4 : Int32).toUInt32 &&& Int32.toUInt32 31)).toInt32)) &&& 252645135) (fun (x3 : Int32) => mm_lt (x3 + ((x3.toUInt32 >>> ((8 : Int32).toUInt32 &&& Int32.toUInt32 31)).toInt32)) (fun (x4 : Int32) => mm_lt (x4 + ((x4.toUInt32 >>> ((16 : Int32).toUInt32 &&& Int32.toUInt32 31)).toInt32)) (fun (x5 : Int32) => some (x5 &&& 63, μ))))))
abbrev rJ6_bitCount : Room := { frames := 0, cells := 0, slots := 0, locals := 0 }
set_option maxRecDepth 100000 in
set_option maxHeartbeats 8000000 in
theorem tJ6_bitCount {l : Launch} {D : va_G} {cA : Nat → ClassId} {adr : Nat → Nat} {tt sK sV : Nat → Nat} {qv : Value} (hJ : mm_J adr NX) (a0 : Int32) (μ : Mm) : mm_Mi l D cA adr sX NX (mm_SX (mm_A adr NX) tt sK sV qv) yJ6_bitCount_0f7a4 cJ6_bitCount_0f7a4 1 (some .int) rJ6_bitCount [.int a0] μ (fJ6_bitCount a0 μ) := by
  refine mm_entryi hJ mm_okX (by decide) (Nat.le_of_ble_eq_true rfl) ⟨rfl, rfl⟩ (fun p e s m below meth c X hr => ?_)
  generalize ([.int a0] : List Value).toArray = args at X ⊢
  refine gx_lv (lv' := [(0, .int a0)]) rfl ?_
  unfold fJ6_bitCount
  refine gx_iload_n X 0 1 0 dJ6_bitCount_0f7a4_0 rfl rfl rfl ?_
  refine gx_iload_n X 1 2 0 dJ6_bitCount_0f7a4_1 rfl rfl rfl ?_
  refine gx_iconst X 2 3 (1) dJ6_bitCount_0f7a4_2 rfl ci_1 ?_
  refine gx_iushr X 3 4 dJ6_bitCount_0f7a4_3 rfl ?_
  refine gx_ldc_w X 4 7 wk_J6_265 dJ6_bitCount_0f7a4_4 rfl ?_
  refine gx_iand X 7 8 dJ6_bitCount_0f7a4_7 rfl ?_
  refine gx_isub X 8 9 dJ6_bitCount_0f7a4_8 rfl ?_
  refine gx_istore_n X 9 10 (fun x1 => [(0, .int x1)]) dJ6_bitCount_0f7a4_9 rfl rfl (by decide) (fun _ => rfl) (fun x1 => ?_)
  refine gx_iload_n X 10 11 0 dJ6_bitCount_0f7a4_10 rfl rfl rfl ?_
  refine gx_ldc_w X 11 14 wk_J6_266 dJ6_bitCount_0f7a4_11 rfl ?_
  refine gx_iand X 14 15 dJ6_bitCount_0f7a4_14 rfl ?_
  refine gx_iload_n X 15 16 0 dJ6_bitCount_0f7a4_15 rfl rfl rfl ?_
  refine gx_iconst X 16 17 (2) dJ6_bitCount_0f7a4_16 rfl ci_2 ?_
  refine gx_iushr X 17 18 dJ6_bitCount_0f7a4_17 rfl ?_
  refine gx_ldc_w X 18 21 wk_J6_266 dJ6_bitCount_0f7a4_18 rfl ?_
  refine gx_iand X 21 22 dJ6_bitCount_0f7a4_21 rfl ?_
  refine gx_iadd X 22 23 dJ6_bitCount_0f7a4_22 rfl ?_
  refine gx_istore_n X 23 24 (fun x2 => [(0, .int x2)]) dJ6_bitCount_0f7a4_23 rfl rfl (by decide) (fun _ => rfl) (fun x2 => ?_)
  refine gx_iload_n X 24 25 0 dJ6_bitCount_0f7a4_24 rfl rfl rfl ?_
  refine gx_iload_n X 25 26 0 dJ6_bitCount_0f7a4_25 rfl rfl rfl ?_
  refine gx_iconst X 26 27 (4) dJ6_bitCount_0f7a4_26 rfl ci_4 ?_
  refine gx_iushr X 27 28 dJ6_bitCount_0f7a4_27 rfl ?_
  refine gx_iadd X 28 29 dJ6_bitCount_0f7a4_28 rfl ?_
  refine gx_ldc_w X 29 32 wk_J6_267 dJ6_bitCount_0f7a4_29 rfl ?_
  refine gx_iand X 32 33 dJ6_bitCount_0f7a4_32 rfl ?_
  refine gx_istore_n X 33 34 (fun x3 => [(0, .int x3)]) dJ6_bitCount_0f7a4_33 rfl rfl (by decide) (fun _ => rfl) (fun x3 => ?_)
  refine gx_iload_n X 34 35 0 dJ6_bitCount_0f7a4_34 rfl rfl rfl ?_
  refine gx_iload_n X 35 36 0 dJ6_bitCount_0f7a4_35 rfl rfl rfl ?_
  refine gx_bipush X 36 38 (8) dJ6_bitCount_0f7a4_36 rfl cb_8 ?_
  refine gx_iushr X 38 39 dJ6_bitCount_0f7a4_38 rfl ?_
  refine gx_iadd X 39 40 dJ6_bitCount_0f7a4_39 rfl ?_
  refine gx_istore_n X 40 41 (fun x4 => [(0, .int x4)]) dJ6_bitCount_0f7a4_40 rfl rfl (by decide) (fun _ => rfl) (fun x4 => ?_)
  refine gx_iload_n X 41 42 0 dJ6_bitCount_0f7a4_41 rfl rfl rfl ?_
  refine gx_iload_n X 42 43 0 dJ6_bitCount_0f7a4_42 rfl rfl rfl ?_
  refine gx_bipush X 43 45 (16) dJ6_bitCount_0f7a4_43 rfl cb_16 ?_
  refine gx_iushr X 45 46 dJ6_bitCount_0f7a4_45 rfl ?_
  refine gx_iadd X 46 47 dJ6_bitCount_0f7a4_46 rfl ?_
  refine gx_istore_n X 47 48 (fun x5 => [(0, .int x5)]) dJ6_bitCount_0f7a4_47 rfl rfl (by decide) (fun _ => rfl) (fun x5 => ?_)
  refine gx_iload_n X 48 49 0 dJ6_bitCount_0f7a4_48 rfl rfl rfl ?_
  refine gx_bipush X 49 51 (63) dJ6_bitCount_0f7a4_49 rfl cb_63 ?_
  refine gx_iand X 51 52 dJ6_bitCount_0f7a4_51 rfl ?_
  exact gx_iret X 52 hr dJ6_bitCount_0f7a4_52
def fX3_has (a1 : Int32) (μ : Mm) : Aa := mm_cl (fX6_isWithin a1 (μ 1 1) μ) (fun (x1 : Int32) (m2 : Mm) => mm_bo x1 (some (x1, m2)))
abbrev rX3_has : Room := { frames := 1, cells := 0, slots := 0, locals := 21 }
set_option maxRecDepth 100000 in
set_option maxHeartbeats 8000000 in
theorem tX3_has {l : Launch} {D : va_G} {cA : Nat → ClassId} {adr : Nat → Nat} {tt sK sV : Nat → Nat} {qv : Value} (hJ : mm_J adr NX) (a1 : Int32) (μ : Mm) : mm_Mi l D cA adr sX NX (mm_SX (mm_A adr NX) tt sK sV qv) yX3_has cX3_has 2 (some .boolean) rX3_has [.ref (adr 1), .int a1] μ (fX3_has a1 μ) := by
  refine mm_entryi hJ mm_okX (by decide) (Nat.le_of_ble_eq_true rfl) ⟨rfl, rfl⟩ (fun p e s m below meth c X hr => ?_)
  generalize ([.ref (adr 1), .int a1] : List Value).toArray = args at X ⊢
  refine gx_lv (lv' := [(0, .ref (adr 1)), (1, .int a1)]) rfl ?_
  unfold fX3_has
  refine gx_iload_n X 0 1 1 dX3_has_0 rfl rfl rfl ?_
  refine gx_aload_n X 1 2 0 dX3_has_1 rfl rfl rfl ?_
  refine gx_getI X 2 5 1 (by decide) rfl rfl fg_X3_33 dX3_has_2 rfl ?_
  refine gx_calliN X 5 8 (rest := []) (As := [.int a1, .int (μ 1 1)]) (tX6_isWithin hJ a1 (μ 1 1) μ) wc_X6_isWithin (mm_nest X (List.mem_of_getElem? (i := 0) rfl)) wt_X6_isWithin wn_X6 hd_X6_isWithin ⟨Nat.le_of_ble_eq_true rfl, Nat.le_of_ble_eq_true rfl⟩ ⟨rfl, rfl⟩ rfl rfl (Nat.le_of_ble_eq_true rfl) dX3_has_5 rfl (fun x1 m2 => ?_)
  exact gx_zret X 8 hr dX3_has_8
def fX3_hasRoom (a1 : Int32) (μ : Mm) : Aa := mm_lt (fun (x1 : Int32) (m2 : Mm) => mm_bo x1 (some (x1, m2))) (fun (k_16 : Int32 → Mm → Aa) => if 10 < ((μ 1 1) + a1) then (k_16 0 μ) else (k_16 1 μ))
abbrev rX3_hasRoom : Room := { frames := 0, cells := 0, slots := 0, locals := 0 }
set_option maxRecDepth 100000 in
set_option maxHeartbeats 8000000 in
theorem tX3_hasRoom {l : Launch} {D : va_G} {cA : Nat → ClassId} {adr : Nat → Nat} {tt sK sV : Nat → Nat} {qv : Value} (hJ : mm_J adr NX) (a1 : Int32) (μ : Mm) : mm_Mi l D cA adr sX NX (mm_SX (mm_A adr NX) tt sK sV qv) yX3_hasRoom cX3_hasRoom 2 (some .boolean) rX3_hasRoom [.ref (adr 1), .int a1] μ (fX3_hasRoom a1 μ) := by
  refine mm_entryi hJ mm_okX (by decide) (Nat.le_of_ble_eq_true rfl) ⟨rfl, rfl⟩ (fun p e s m below meth c X hr => ?_)
  generalize ([.ref (adr 1), .int a1] : List Value).toArray = args at X ⊢
  refine gx_lv (lv' := [(0, .ref (adr 1)), (1, .int a1)]) rfl ?_
  unfold fX3_hasRoom
  refine gx_aload_n X 0 1 0 dX3_hasRoom_0 rfl rfl rfl ?_
  refine gx_getI X 1 4 1 (by decide) rfl rfl fg_X3_33 dX3_hasRoom_1 rfl ?_
  refine gx_iload_n X 4 5 1 dX3_hasRoom_4 rfl rfl rfl ?_
  refine gx_iadd X 5 6 dX3_hasRoom_5 rfl ?_
  refine gx_bipush X 6 8 (10) dX3_hasRoom_6 rfl cb_10 ?_
  refine gx_jn (fun (k : Int32 → Mm → Aa) => ∀ (x1 : Int32) (m2 : Mm), mm_G p l e rX3_hasRoom s m args below meth c 2 D cA adr sX NX (mm_Qi D cA adr sX NX) m2 16 [] [.int x1] (k x1 m2)) ?_ (fun k_16 hk_16 => ?_)
  · intro x1 m2
    exact gx_zret X 16 hr dX3_hasRoom_16
  refine gx_icmp_gt X 8 15 11 dX3_hasRoom_8 rfl rfl ?_ ?_
  · refine gx_iconst X 15 16 (0) dX3_hasRoom_15 rfl ci_0 ?_
    refine gx_sub [] rfl ?_
    exact hk_16 0 μ
  refine gx_iconst X 11 12 (1) dX3_hasRoom_11 rfl ci_1 ?_
  refine gx_goto X 12 16 dX3_hasRoom_12 rfl ?_
  refine gx_sub [] rfl ?_
  exact hk_16 1 μ
def fX3_isSpiting (a1 : Int32) (μ : Mm) : Aa := mm_ck a1 10 (mm_ck 2 7 (mm_lt (fun (x2 : Int32) (m3 : Mm) => mm_bo x2 (some (x2, m3))) (fun (k_17 : Int32 → Mm → Aa) => if (μ ((4 + a1.toNatClampNeg)) (2 : Int32).toNatClampNeg) = 3 then (k_17 1 μ) else (k_17 0 μ))))
abbrev rX3_isSpiting : Room := { frames := 0, cells := 0, slots := 0, locals := 0 }
set_option maxRecDepth 100000 in
set_option maxHeartbeats 8000000 in
theorem tX3_isSpiting {l : Launch} {D : va_G} {cA : Nat → ClassId} {adr : Nat → Nat} {tt sK sV : Nat → Nat} {qv : Value} (hJ : mm_J adr NX) (a1 : Int32) (μ : Mm) : mm_Mi l D cA adr sX NX (mm_SX (mm_A adr NX) tt sK sV qv) yX3_isSpiting cX3_isSpiting 2 (some .boolean) rX3_isSpiting [.ref (adr 1), .int a1] μ (fX3_isSpiting a1 μ) := by
  refine mm_entryi hJ mm_okX (by decide) (Nat.le_of_ble_eq_true rfl) ⟨rfl, rfl⟩ (fun p e s m below meth c X hr => ?_)
  generalize ([.ref (adr 1), .int a1] : List Value).toArray = args at X ⊢
  refine gx_lv (lv' := [(0, .ref (adr 1)), (1, .int a1)]) rfl ?_
  unfold fX3_isSpiting
  refine gx_aload_n X 0 1 0 dX3_isSpiting_0 rfl rfl rfl ?_
  refine gx_getR X 1 4 1 (by decide) rfl rfl fg_X3_21 dX3_isSpiting_1 rfl ?_
  refine gx_iload_n X 4 5 1 dX3_isSpiting_4 rfl rfl rfl ?_
  refine gx_aaload X 5 6 3 (by decide) rfl rfl rfl dX3_isSpiting_5 rfl (fun h1 => ?_)
  refine gx_iconst X 6 7 (2) dX3_isSpiting_6 rfl ci_2 ?_
  refine gx_iaload X 7 8 ((4 + a1.toNatClampNeg)) (sX_fl h1) (sX_f h1) dX3_isSpiting_7 rfl ?_
  refine gx_iconst X 8 9 (3) dX3_isSpiting_8 rfl ci_3 ?_
  refine gx_jn (fun (k : Int32 → Mm → Aa) => ∀ (x2 : Int32) (m3 : Mm), mm_G p l e rX3_isSpiting s m args below meth c 2 D cA adr sX NX (mm_Qi D cA adr sX NX) m3 17 [] [.int x2] (k x2 m3)) ?_ (fun k_17 hk_17 => ?_)
  · intro x2 m3
    exact gx_zret X 17 hr dX3_isSpiting_17
  refine gx_icmp_ne X 9 16 12 dX3_isSpiting_9 rfl rfl ?_ ?_
  · refine gx_iconst X 16 17 (0) dX3_isSpiting_16 rfl ci_0 ?_
    refine gx_sub [] rfl ?_
    exact hk_17 0 μ
  refine gx_iconst X 12 13 (1) dX3_isSpiting_12 rfl ci_1 ?_
  refine gx_goto X 13 17 dX3_isSpiting_13 rfl ?_
  refine gx_sub [] rfl ?_
  exact hk_17 1 μ
def fX3_paceOf (a1 : Int32) (μ : Mm) : Aa := mm_ck a1 10 (mm_ck 3 7 (mm_lt (μ ((4 + a1.toNatClampNeg)) (3 : Int32).toNatClampNeg) (fun (x2 : Int32) => mm_ck a1 10 (mm_ck 2 7 (mm_lt (fun (m4 : Mm) => some (x2 * 2, m4)) (fun (k_44 : Mm → Aa) => if (μ ((4 + a1.toNatClampNeg)) (2 : Int32).toNatClampNeg) = 1 then (k_44 μ) else (if (μ ((4 + a1.toNatClampNeg)) (2 : Int32).toNatClampNeg) = 2 then (mm_cl (fX6_half x2 μ) (fun (x5 : Int32) (m6 : Mm) => some (x5, m6))) else (if (μ ((4 + a1.toNatClampNeg)) (2 : Int32).toNatClampNeg) = 3 then (k_44 μ) else (some (x2, μ))))))))))
abbrev rX3_paceOf : Room := { frames := 2, cells := 0, slots := 0, locals := 41 }
set_option maxRecDepth 100000 in
set_option maxHeartbeats 8000000 in
theorem tX3_paceOf {l : Launch} {D : va_G} {cA : Nat → ClassId} {adr : Nat → Nat} {tt sK sV : Nat → Nat} {qv : Value} (hJ : mm_J adr NX) (a1 : Int32) (μ : Mm) : mm_Mi l D cA adr sX NX (mm_SX (mm_A adr NX) tt sK sV qv) yX3_paceOf cX3_paceOf 3 (some .int) rX3_paceOf [.ref (adr 1), .int a1] μ (fX3_paceOf a1 μ) := by
  refine mm_entryi hJ mm_okX (by decide) (Nat.le_of_ble_eq_true rfl) ⟨rfl, rfl⟩ (fun p e s m below meth c X hr => ?_)
  generalize ([.ref (adr 1), .int a1] : List Value).toArray = args at X ⊢
  refine gx_lv (lv' := [(0, .ref (adr 1)), (1, .int a1)]) rfl ?_
  unfold fX3_paceOf
  refine gx_aload_n X 0 1 0 dX3_paceOf_0 rfl rfl rfl ?_
  refine gx_getR X 1 4 1 (by decide) rfl rfl fg_X3_21 dX3_paceOf_1 rfl ?_
  refine gx_iload_n X 4 5 1 dX3_paceOf_4 rfl rfl rfl ?_
  refine gx_aaload X 5 6 3 (by decide) rfl rfl rfl dX3_paceOf_5 rfl (fun h1 => ?_)
  refine gx_iconst X 6 7 (3) dX3_paceOf_6 rfl ci_3 ?_
  refine gx_iaload X 7 8 ((4 + a1.toNatClampNeg)) (sX_fl h1) (sX_f h1) dX3_paceOf_7 rfl ?_
  refine gx_istore_n X 8 9 (fun x2 => [(2, .int x2), (0, .ref (adr 1)), (1, .int a1)]) dX3_paceOf_8 rfl rfl (by decide) (fun _ => rfl) (fun x2 => ?_)
  refine gx_aload_n X 9 10 1 dX3_paceOf_9 rfl rfl rfl ?_
  refine gx_getR X 10 13 1 (by decide) rfl rfl fg_X3_21 dX3_paceOf_10 rfl ?_
  refine gx_iload_n X 13 14 2 dX3_paceOf_13 rfl rfl rfl ?_
  refine gx_aaload X 14 15 3 (by decide) rfl rfl rfl dX3_paceOf_14 rfl (fun h3 => ?_)
  refine gx_iconst X 15 16 (2) dX3_paceOf_15 rfl ci_2 ?_
  refine gx_iaload X 16 17 ((4 + a1.toNatClampNeg)) (sX_fl h3) (sX_f h3) dX3_paceOf_16 rfl ?_
  refine gx_jn (fun (k : Mm → Aa) => ∀ (m4 : Mm), mm_G p l e rX3_paceOf s m args below meth c 3 D cA adr sX NX (mm_Qi D cA adr sX NX) m4 44 [(2, .int x2)] [] (k m4)) ?_ (fun k_44 hk_44 => ?_)
  · intro m4
    refine gx_iload_n X 44 45 0 dX3_paceOf_44 rfl rfl rfl ?_
    refine gx_iconst X 45 46 (2) dX3_paceOf_45 rfl ci_2 ?_
    refine gx_imul X 46 47 dX3_paceOf_46 rfl ?_
    exact gx_iret X 47 hr dX3_paceOf_47
  refine gx_if (fun hc17_1 => ?_) (fun hc17_1 => ?_)
  · refine gx_tabIn X 17 44 (1) (off := 27) hc17_1 dX3_paceOf_17 (by decide) (by decide) (by decide) rfl ?_
    refine gx_sub [0] rfl ?_
    exact hk_44 μ
  refine gx_if (fun hc17_2 => ?_) (fun hc17_2 => ?_)
  · refine gx_tabIn X 17 48 (2) (off := 31) hc17_2 dX3_paceOf_17 (by decide) (by decide) (by decide) rfl ?_
    refine gx_iload_n X 48 49 0 dX3_paceOf_48 rfl rfl rfl ?_
    refine gx_calliN X 49 52 (rest := []) (As := [.int x2]) (tX6_half hJ x2 μ) wc_X6_half (mm_nest X (List.mem_of_getElem? (i := 1) rfl)) wt_X6_half wn_X6 hd_X6_half ⟨Nat.le_of_ble_eq_true rfl, Nat.le_of_ble_eq_true rfl⟩ ⟨rfl, rfl⟩ rfl rfl (Nat.le_of_ble_eq_true rfl) dX3_paceOf_49 rfl (fun x5 m6 => ?_)
    exact gx_iret X 52 hr dX3_paceOf_52
  refine gx_if (fun hc17_3 => ?_) (fun hc17_3 => ?_)
  · refine gx_tabIn X 17 44 (3) (off := 27) hc17_3 dX3_paceOf_17 (by decide) (by decide) (by decide) rfl ?_
    refine gx_sub [0] rfl ?_
    exact hk_44 μ
  refine gx_tabOut X 17 53 dX3_paceOf_17 (by have ghc17_1 := mm_neI 1 (by decide) hc17_1; have ghc17_2 := mm_neI 2 (by decide) hc17_2; have ghc17_3 := mm_neI 3 (by decide) hc17_3; omega) rfl ?_
  refine gx_iload_n X 53 54 0 dX3_paceOf_53 rfl rfl rfl ?_
  exact gx_iret X 54 hr dX3_paceOf_54
def fX3_mayCome_L16 (a2 : Int32) (k1 : Nat) (n1 : Nat) (k_48 : Mm → Aa) (k_56 : Mm → Aa) (rec_16 : Int32 → Mm → Aa) (x5 : Int32) (m6 : Mm) : Aa := if 5 ≤ x5 then (k_56 m6) else (mm_ck (a2 + x5) n1 (mm_lt (m6 k1 (a2 + x5).toNatClampNeg) (fun (x7 : Int32) => mm_ck x5 6 (if x7 < ((mm_stV 3).getD x5.toNatClampNeg 0) then (k_48 m6) else (mm_ck x5 6 (if x7 ≤ ((mm_stV 4).getD x5.toNatClampNeg 0) then (mm_lt (x5 + 1) (fun (x8 : Int32) => rec_16 x8 m6)) else (k_48 m6)))))))
def fX3_mayCome (k1 : Nat) (n1 : Nat) (a2 : Int32) (μ : Mm) : Aa := mm_lt (fun (m1 : Mm) => mm_bo 0 (some (0, m1))) (fun (k_12 : Mm → Aa) => if a2 < 0 then (k_12 μ) else (if a2 ≤ ((Int32.ofNat n1) - 5) then (mm_lt 0 (fun (x2 : Int32) => mm_lt (fun (m3 : Mm) => mm_bo 1 (some (1, m3))) (fun (k_56 : Mm → Aa) => mm_lt (fun (m4 : Mm) => mm_bo 0 (some (0, m4))) (fun (k_48 : Mm → Aa) => mm_lk (fun (_ : Int32) (_ : Mm) => (none : Aa)) (fX3_mayCome_L16 a2 k1 n1 k_48 k_56) mm_fu x2 μ)))) else (k_12 μ)))
abbrev rX3_mayCome : Room := { frames := 0, cells := 0, slots := 0, locals := 0 }
set_option maxRecDepth 100000 in
set_option maxHeartbeats 8000000 in
theorem tX3_mayCome {l : Launch} {D : va_G} {cA : Nat → ClassId} {adr : Nat → Nat} {tt sK sV : Nat → Nat} {qv : Value} (hJ : mm_J adr NX) (k1 : Nat) (n1 : Nat) (a2 : Int32) (hk1 : k1 < NX) (hs1 : sX k1 = .inl n1) (μ : Mm) : mm_Mi l D cA adr sX NX (mm_SX (mm_A adr NX) tt sK sV qv) yX3_mayCome cX3_mayCome 5 (some .boolean) rX3_mayCome [.ref (adr 1), .ref (adr k1), .int a2] μ (fX3_mayCome k1 n1 a2 μ) := by
  refine mm_entryi hJ mm_okX (by decide) (Nat.le_of_ble_eq_true rfl) ⟨rfl, rfl⟩ (fun p e s m below meth c X hr => ?_)
  generalize ([.ref (adr 1), .ref (adr k1), .int a2] : List Value).toArray = args at X ⊢
  refine gx_lv (lv' := [(0, .ref (adr 1)), (1, .ref (adr k1)), (2, .int a2)]) rfl ?_
  unfold fX3_mayCome
  refine gx_iload_n X 0 1 2 dX3_mayCome_0 rfl rfl rfl ?_
  refine gx_jn (fun (k : Mm → Aa) => ∀ (m1 : Mm), mm_G p l e rX3_mayCome s m args below meth c 5 D cA adr sX NX (mm_Qi D cA adr sX NX) m1 12 [] [] (k m1)) ?_ (fun k_12 hk_12 => ?_)
  · intro m1
    refine gx_iconst X 12 13 (0) dX3_mayCome_12 rfl ci_0 ?_
    exact gx_zret X 13 hr dX3_mayCome_13
  refine gx_if_lt X 1 12 4 dX3_mayCome_1 rfl rfl ?_ ?_
  · refine gx_sub [] rfl ?_
    exact hk_12 μ
  refine gx_iload_n X 4 5 2 dX3_mayCome_4 rfl rfl rfl ?_
  refine gx_aload_n X 5 6 1 dX3_mayCome_5 rfl rfl rfl ?_
  refine gx_alen X 6 7 k1 (Int32.ofNat n1) hk1 hs1 rfl dX3_mayCome_6 rfl ?_
  refine gx_iconst X 7 8 (5) dX3_mayCome_7 rfl ci_5 ?_
  refine gx_isub X 8 9 dX3_mayCome_8 rfl ?_
  refine gx_icmp_le X 9 14 12 dX3_mayCome_9 rfl rfl ?_ ?_
  · refine gx_iconst X 14 15 (0) dX3_mayCome_14 rfl ci_0 ?_
    refine gx_istore_n X 15 16 (fun x2 => [(3, .int x2), (0, .ref (adr 1)), (1, .ref (adr k1)), (2, .int a2)]) dX3_mayCome_15 rfl rfl (by decide) (fun _ => rfl) (fun x2 => ?_)
    refine gx_jn (fun (k : Mm → Aa) => ∀ (m3 : Mm), mm_G p l e rX3_mayCome s m args below meth c 5 D cA adr sX NX (mm_Qi D cA adr sX NX) m3 56 [] [] (k m3)) ?_ (fun k_56 hk_56 => ?_)
    · intro m3
      refine gx_iconst X 56 57 (1) dX3_mayCome_56 rfl ci_1 ?_
      exact gx_zret X 57 hr dX3_mayCome_57
    refine gx_jn (fun (k : Mm → Aa) => ∀ (m4 : Mm), mm_G p l e rX3_mayCome s m args below meth c 5 D cA adr sX NX (mm_Qi D cA adr sX NX) m4 48 [] [] (k m4)) ?_ (fun k_48 hk_48 => ?_)
    · intro m4
      refine gx_iconst X 48 49 (0) dX3_mayCome_48 rfl ci_0 ?_
      exact gx_zret X 49 hr dX3_mayCome_49
    refine gx_sub [2, 3, 0] rfl ?_
    refine mm_lk_ind (fun (rec : Int32 → Mm → Aa) => ∀ (x5 : Int32) (m6 : Mm), mm_G p l e rX3_mayCome s m args below meth c 5 D cA adr sX NX (mm_Qi D cA adr sX NX) m6 16 [(1, .ref (adr k1)), (2, .int a2), (3, .int x5)] [] (rec x5 m6)) (fun _ _ => gx_none) (fun rec_16 hr_16 x5 m6 => ?_) mm_fu x2 μ
    unfold fX3_mayCome_L16
    refine gx_iload_n X 16 17 2 dX3_mayCome_16 rfl rfl rfl ?_
    refine gx_iconst X 17 18 (5) dX3_mayCome_17 rfl ci_5 ?_
    refine gx_icmp_ge X 18 56 21 dX3_mayCome_18 rfl rfl ?_ ?_
    · refine gx_sub [] rfl ?_
      exact hk_56 m6
    refine gx_aload_n X 21 22 0 dX3_mayCome_21 rfl rfl rfl ?_
    refine gx_iload_n X 22 23 1 dX3_mayCome_22 rfl rfl rfl ?_
    refine gx_iload_n X 23 24 2 dX3_mayCome_23 rfl rfl rfl ?_
    refine gx_iadd X 24 25 dX3_mayCome_24 rfl ?_
    refine gx_iaload X 25 26 k1 hk1 hs1 dX3_mayCome_25 rfl ?_
    refine gx_istore X 26 28 (fun x7 => [(4, .int x7), (1, .ref (adr k1)), (2, .int a2), (3, .int x5)]) dX3_mayCome_26 rfl (by decide) (fun _ => rfl) (fun x7 => ?_)
    refine gx_iload X 28 30 0 dX3_mayCome_28 rfl rfl ?_
    refine gx_getSN X 30 33 3 (by decide) (List.mem_of_getElem? (i := 1) rfl) dX3_mayCome_30 rfl ?_
    refine gx_iload_n X 33 34 3 dX3_mayCome_33 rfl rfl rfl ?_
    refine gx_sload X 34 35 3 (by decide) rfl dX3_mayCome_34 rfl ?_
    refine gx_icmp_lt X 35 48 38 dX3_mayCome_35 rfl rfl ?_ ?_
    · refine gx_sub [] rfl ?_
      exact hk_48 m6
    refine gx_iload X 38 40 0 dX3_mayCome_38 rfl rfl ?_
    refine gx_getSN X 40 43 4 (by decide) (List.mem_of_getElem? (i := 2) rfl) dX3_mayCome_40 rfl ?_
    refine gx_iload_n X 43 44 3 dX3_mayCome_43 rfl rfl rfl ?_
    refine gx_sload X 44 45 4 (by decide) rfl dX3_mayCome_44 rfl ?_
    refine gx_icmp_le X 45 50 48 dX3_mayCome_45 rfl rfl ?_ ?_
    · refine gx_iinc X 50 53 3 (1) (fun x8 => [(3, .int x8), (4, .int x7), (1, .ref (adr k1)), (2, .int a2)]) dX3_mayCome_50 rfl rfl ci_1 (by decide) (fun _ => rfl) (fun x8 => ?_)
      refine gx_goto X 53 16 dX3_mayCome_53 rfl ?_
      refine gx_sub [2, 3, 0] rfl ?_
      exact hr_16 x8 m6
    refine gx_sub [] rfl ?_
    exact hk_48 m6
  refine gx_sub [] rfl ?_
  exact hk_12 μ
def fX3_enlist (k1 : Nat) (n1 : Nat) (a2 : Int32) (μ : Mm) : Aa := mm_cl (fX3_hasRoom 1 μ) (fun (x1 : Int32) (m2 : Mm) => mm_lt (fun (m3 : Mm) => some (0, m3)) (fun (k_17 : Mm → Aa) => if x1 = 0 then (k_17 m2) else (mm_cl (fX3_mayCome k1 n1 a2 m2) (fun (x4 : Int32) (m5 : Mm) => if x4 = 0 then (k_17 m5) else (mm_ck (m5 1 1) 10 (mm_ac a2 0 5 n1 7 (mm_lt (mm_cp m5 k1 ((4 + (m5 1 1).toNatClampNeg)) a2.toNatClampNeg (0 : Int32).toNatClampNeg (5 : Int32).toNatClampNeg) (fun (m7 : Mm) => mm_ck (m7 1 1) 10 (mm_ck 5 7 (mm_lt (mm_wr m7 ((4 + (m7 1 1).toNatClampNeg)) (5 : Int32).toNatClampNeg 0) (fun (m9 : Mm) => mm_ck (m9 1 1) 10 (mm_ck 6 7 (mm_lt (mm_wr m9 ((4 + (m9 1 1).toNatClampNeg)) (6 : Int32).toNatClampNeg ((-1))) (fun (m11 : Mm) => mm_lt (mm_wr m11 1 1 ((m11 1 1) + 1)) (fun (m12 : Mm) => some (0, m12))))))))))))))))
abbrev rX3_enlist : Room := { frames := 1, cells := 0, slots := 0, locals := 26 }
set_option maxRecDepth 100000 in
set_option maxHeartbeats 8000000 in
theorem tX3_enlist {l : Launch} {D : va_G} {cA : Nat → ClassId} {adr : Nat → Nat} {tt sK sV : Nat → Nat} {qv : Value} (hJ : mm_J adr NX) (k1 : Nat) (n1 : Nat) (a2 : Int32) (hk1 : k1 < NX) (hs1 : sX k1 = .inl n1) (μ : Mm) : mm_Mv l D cA adr sX NX (mm_SX (mm_A adr NX) tt sK sV qv) yX3_enlist cX3_enlist 3 none rX3_enlist [.ref (adr 1), .ref (adr k1), .int a2] μ (fX3_enlist k1 n1 a2 μ) := by
  refine mm_entryv hJ mm_okX (by decide) (Nat.le_of_ble_eq_true rfl) ⟨rfl, rfl⟩ (fun p e s m below meth c X hr => ?_)
  generalize ([.ref (adr 1), .ref (adr k1), .int a2] : List Value).toArray = args at X ⊢
  refine gx_lv (lv' := [(0, .ref (adr 1)), (1, .ref (adr k1)), (2, .int a2)]) rfl ?_
  unfold fX3_enlist
  refine gx_aload_n X 0 1 0 dX3_enlist_0 rfl rfl rfl ?_
  refine gx_iconst X 1 2 (1) dX3_enlist_1 rfl ci_1 ?_
  refine gx_calliV X 2 5 1 (rest := []) (As := [.int 1]) (tX3_hasRoom hJ 1 μ) (by decide) rfl rfl wc_X3_hasRoom wl_X3_46 wi_X3_hasRoom ws_X3_hasRoom wn_X3 rfl hd_X3_hasRoom ⟨Nat.le_of_ble_eq_true rfl, Nat.le_of_ble_eq_true rfl⟩ ⟨rfl, rfl⟩ rfl rfl (Nat.le_of_ble_eq_true rfl) dX3_enlist_2 rfl (fun x1 m2 => ?_)
  refine gx_jn (fun (k : Mm → Aa) => ∀ (m3 : Mm), mm_G p l e rX3_enlist s m args below meth c 3 D cA adr sX NX (mm_Qv D cA adr sX NX) m3 17 [] [] (k m3)) ?_ (fun k_17 hk_17 => ?_)
  · intro m3
    exact gx_vret X 17 hr dX3_enlist_17
  refine gx_if_eq X 5 17 8 dX3_enlist_5 rfl rfl ?_ ?_
  · refine gx_sub [] rfl ?_
    exact hk_17 m2
  refine gx_aload_n X 8 9 0 dX3_enlist_8 rfl rfl rfl ?_
  refine gx_aload_n X 9 10 1 dX3_enlist_9 rfl rfl rfl ?_
  refine gx_iload_n X 10 11 2 dX3_enlist_10 rfl rfl rfl ?_
  refine gx_calliV X 11 14 1 (rest := []) (As := [.ref (adr k1), .int a2]) (tX3_mayCome hJ k1 n1 a2 hk1 hs1 m2) (by decide) rfl rfl wc_X3_mayCome wl_X3_50 wi_X3_mayCome ws_X3_mayCome wn_X3 rfl hd_X3_mayCome ⟨Nat.le_of_ble_eq_true rfl, Nat.le_of_ble_eq_true rfl⟩ ⟨rfl, rfl⟩ rfl rfl (Nat.le_of_ble_eq_true rfl) dX3_enlist_11 rfl (fun x4 m5 => ?_)
  refine gx_if_ne X 14 18 17 dX3_enlist_14 rfl rfl ?_ ?_
  · refine gx_aload_n X 18 19 1 dX3_enlist_18 rfl rfl rfl ?_
    refine gx_iload_n X 19 20 2 dX3_enlist_19 rfl rfl rfl ?_
    refine gx_aload_n X 20 21 0 dX3_enlist_20 rfl rfl rfl ?_
    refine gx_getR X 21 24 1 (by decide) rfl rfl fg_X3_21 dX3_enlist_21 rfl ?_
    refine gx_aload_n X 24 25 0 dX3_enlist_24 rfl rfl rfl ?_
    refine gx_getI X 25 28 1 (by decide) rfl rfl fg_X3_33 dX3_enlist_25 rfl ?_
    refine gx_aaload X 28 29 3 (by decide) rfl rfl rfl dX3_enlist_28 rfl (fun h6 => ?_)
    refine gx_iconst X 29 30 (0) dX3_enlist_29 rfl ci_0 ?_
    refine gx_iconst X 30 31 (5) dX3_enlist_30 rfl ci_5 ?_
    refine gx_acopy X 31 34 k1 ((4 + (m5 1 1).toNatClampNeg)) hk1 (sX_fl h6) hs1 (sX_f h6) wl_X3_27 (by decide) (Nat.le_of_ble_eq_true rfl) dX3_enlist_31 rfl (fun m7 => ?_)
    refine gx_aload_n X 34 35 0 dX3_enlist_34 rfl rfl rfl ?_
    refine gx_getR X 35 38 1 (by decide) rfl rfl fg_X3_21 dX3_enlist_35 rfl ?_
    refine gx_aload_n X 38 39 0 dX3_enlist_38 rfl rfl rfl ?_
    refine gx_getI X 39 42 1 (by decide) rfl rfl fg_X3_33 dX3_enlist_39 rfl ?_
    refine gx_aaload X 42 43 3 (by decide) rfl rfl rfl dX3_enlist_42 rfl (fun h8 => ?_)
    refine gx_iconst X 43 44 (5) dX3_enlist_43 rfl ci_5 ?_
    refine gx_iconst X 44 45 (0) dX3_enlist_44 rfl ci_0 ?_
    refine gx_iastore X 45 46 ((4 + (m7 1 1).toNatClampNeg)) (sX_fl h8) (sX_f h8) dX3_enlist_45 rfl (fun m9 => ?_)
    refine gx_aload_n X 46 47 0 dX3_enlist_46 rfl rfl rfl ?_
    refine gx_getR X 47 50 1 (by decide) rfl rfl fg_X3_21 dX3_enlist_47 rfl ?_
    refine gx_aload_n X 50 51 0 dX3_enlist_50 rfl rfl rfl ?_
    refine gx_getI X 51 54 1 (by decide) rfl rfl fg_X3_33 dX3_enlist_51 rfl ?_
    refine gx_aaload X 54 55 3 (by decide) rfl rfl rfl dX3_enlist_54 rfl (fun h10 => ?_)
    refine gx_bipush X 55 57 (6) dX3_enlist_55 rfl cb_6 ?_
    refine gx_iconst X 57 58 (-1) dX3_enlist_57 rfl ci_m1 ?_
    refine gx_iastore X 58 59 ((4 + (m9 1 1).toNatClampNeg)) (sX_fl h10) (sX_f h10) dX3_enlist_58 rfl (fun m11 => ?_)
    refine gx_aload_n X 59 60 0 dX3_enlist_59 rfl rfl rfl ?_
    refine gx_dup X 60 61 dX3_enlist_60 rfl rfl ?_
    refine gx_getI X 61 64 1 (by decide) rfl rfl fg_X3_33 dX3_enlist_61 rfl ?_
    refine gx_iconst X 64 65 (1) dX3_enlist_64 rfl ci_1 ?_
    refine gx_iadd X 65 66 dX3_enlist_65 rfl ?_
    refine gx_putI X 66 69 1 (by decide) rfl rfl fp_X3_33 dX3_enlist_66 rfl (fun m12 => ?_)
    exact gx_vret X 69 hr dX3_enlist_69
  refine gx_sub [] rfl ?_
  exact hk_17 m5
def fX3_becomeK_L33 (k_64 : Mm → Aa) (rec_33 : Int32 → Mm → Aa) (x6 : Int32) (m7 : Mm) : Aa := if 10 ≤ x6 then (k_64 m7) else (mm_ck x6 10 (mm_ck x6 10 (mm_ac 0 0 7 7 7 (mm_lt (mm_cp m7 ((4 + x6.toNatClampNeg)) ((17 + x6.toNatClampNeg)) (0 : Int32).toNatClampNeg (0 : Int32).toNatClampNeg (7 : Int32).toNatClampNeg) (fun (m10 : Mm) => mm_lt (x6 + 1) (fun (x11 : Int32) => rec_33 x11 m10))))))
def fX3_becomeK (μ : Mm) : Aa := mm_lt (mm_wr μ 14 0 (μ 1 0)) (fun (m1 : Mm) => mm_lt (mm_wr m1 14 1 (m1 1 1)) (fun (m2 : Mm) => mm_ac 0 0 6 6 6 (mm_lt (mm_cp m2 2 15 (0 : Int32).toNatClampNeg (0 : Int32).toNatClampNeg (6 : Int32).toNatClampNeg) (fun (m3 : Mm) => mm_lt 0 (fun (x4 : Int32) => mm_lt (fun (m5 : Mm) => some (0, m5)) (fun (k_64 : Mm → Aa) => mm_lk (fun (_ : Int32) (_ : Mm) => (none : Aa)) (fX3_becomeK_L33 k_64) mm_fu x4 m3))))))
abbrev rX3_becomeK : Room := { frames := 1, cells := 0, slots := 0, locals := 26 }
set_option maxRecDepth 100000 in
set_option maxHeartbeats 8000000 in
theorem tX3_becomeK {l : Launch} {D : va_G} {cA : Nat → ClassId} {adr : Nat → Nat} {tt sK sV : Nat → Nat} {qv : Value} (hJ : mm_J adr NX) (μ : Mm) : mm_Mv l D cA adr sX NX (mm_SX (mm_A adr NX) tt sK sV qv) yX3_become cX3_become 3 none rX3_becomeK [.ref (adr 14), .ref (adr 1)] μ (fX3_becomeK μ) := by
  refine mm_entryv hJ mm_okX (by decide) (Nat.le_of_ble_eq_true rfl) ⟨rfl, rfl⟩ (fun p e s m below meth c X hr => ?_)
  generalize ([.ref (adr 14), .ref (adr 1)] : List Value).toArray = args at X ⊢
  refine gx_lv (lv' := [(0, .ref (adr 14)), (1, .ref (adr 1))]) rfl ?_
  unfold fX3_becomeK
  refine gx_aload_n X 0 1 0 dX3_become_0 rfl rfl rfl ?_
  refine gx_aload_n X 1 2 1 dX3_become_1 rfl rfl rfl ?_
  refine gx_getI X 2 5 1 (by decide) rfl rfl fg_X3_9 dX3_become_2 rfl ?_
  refine gx_putI X 5 8 14 (by decide) rfl rfl fp_X3_9 dX3_become_5 rfl (fun m1 => ?_)
  refine gx_aload_n X 8 9 0 dX3_become_8 rfl rfl rfl ?_
  refine gx_aload_n X 9 10 1 dX3_become_9 rfl rfl rfl ?_
  refine gx_getI X 10 13 1 (by decide) rfl rfl fg_X3_33 dX3_become_10 rfl ?_
  refine gx_putI X 13 16 14 (by decide) rfl rfl fp_X3_33 dX3_become_13 rfl (fun m2 => ?_)
  refine gx_aload_n X 16 17 1 dX3_become_16 rfl rfl rfl ?_
  refine gx_getR X 17 20 1 (by decide) rfl rfl fg_X3_15 dX3_become_17 rfl ?_
  refine gx_iconst X 20 21 (0) dX3_become_20 rfl ci_0 ?_
  refine gx_aload_n X 21 22 0 dX3_become_21 rfl rfl rfl ?_
  refine gx_getR X 22 25 14 (by decide) rfl rfl fg_X3_15 dX3_become_22 rfl ?_
  refine gx_iconst X 25 26 (0) dX3_become_25 rfl ci_0 ?_
  refine gx_bipush X 26 28 (6) dX3_become_26 rfl cb_6 ?_
  refine gx_acopy X 28 31 2 15 (by decide) (by decide) rfl rfl wl_X3_27 (by decide) (Nat.le_of_ble_eq_true rfl) dX3_become_28 rfl (fun m3 => ?_)
  refine gx_iconst X 31 32 (0) dX3_become_31 rfl ci_0 ?_
  refine gx_istore_n X 32 33 (fun x4 => [(2, .int x4), (0, .ref (adr 14)), (1, .ref (adr 1))]) dX3_become_32 rfl rfl (by decide) (fun _ => rfl) (fun x4 => ?_)
  refine gx_jn (fun (k : Mm → Aa) => ∀ (m5 : Mm), mm_G p l e rX3_becomeK s m args below meth c 3 D cA adr sX NX (mm_Qv D cA adr sX NX) m5 64 [] [] (k m5)) ?_ (fun k_64 hk_64 => ?_)
  · intro m5
    exact gx_vret X 64 hr dX3_become_64
  refine gx_sub [1, 2, 0] rfl ?_
  refine mm_lk_ind (fun (rec : Int32 → Mm → Aa) => ∀ (x6 : Int32) (m7 : Mm), mm_G p l e rX3_becomeK s m args below meth c 3 D cA adr sX NX (mm_Qv D cA adr sX NX) m7 33 [(0, .ref (adr 14)), (1, .ref (adr 1)), (2, .int x6)] [] (rec x6 m7)) (fun _ _ => gx_none) (fun rec_33 hr_33 x6 m7 => ?_) mm_fu x4 m3
  unfold fX3_becomeK_L33
  refine gx_iload_n X 33 34 2 dX3_become_33 rfl rfl rfl ?_
  refine gx_bipush X 34 36 (10) dX3_become_34 rfl cb_10 ?_
  refine gx_icmp_ge X 36 64 39 dX3_become_36 rfl rfl ?_ ?_
  · refine gx_sub [] rfl ?_
    exact hk_64 m7
  refine gx_aload_n X 39 40 1 dX3_become_39 rfl rfl rfl ?_
  refine gx_getR X 40 43 1 (by decide) rfl rfl fg_X3_21 dX3_become_40 rfl ?_
  refine gx_iload_n X 43 44 2 dX3_become_43 rfl rfl rfl ?_
  refine gx_aaload X 44 45 3 (by decide) rfl rfl rfl dX3_become_44 rfl (fun h8 => ?_)
  refine gx_iconst X 45 46 (0) dX3_become_45 rfl ci_0 ?_
  refine gx_aload_n X 46 47 0 dX3_become_46 rfl rfl rfl ?_
  refine gx_getR X 47 50 14 (by decide) rfl rfl fg_X3_21 dX3_become_47 rfl ?_
  refine gx_iload_n X 50 51 2 dX3_become_50 rfl rfl rfl ?_
  refine gx_aaload X 51 52 16 (by decide) rfl rfl rfl dX3_become_51 rfl (fun h9 => ?_)
  refine gx_iconst X 52 53 (0) dX3_become_52 rfl ci_0 ?_
  refine gx_bipush X 53 55 (7) dX3_become_53 rfl cb_7 ?_
  refine gx_acopy X 55 58 ((4 + x6.toNatClampNeg)) ((17 + x6.toNatClampNeg)) (sX_fl h8) (sX_gl h9) (sX_f h8) (sX_g h9) wl_X3_27 (by decide) (Nat.le_of_ble_eq_true rfl) dX3_become_55 rfl (fun m10 => ?_)
  refine gx_iinc X 58 61 2 (1) (fun x11 => [(2, .int x11), (0, .ref (adr 14)), (1, .ref (adr 1))]) dX3_become_58 rfl rfl ci_1 (by decide) (fun _ => rfl) (fun x11 => ?_)
  refine gx_goto X 61 33 dX3_become_61 rfl ?_
  refine gx_sub [1, 2, 0] rfl ?_
  exact hr_33 x11 m10
def fX3_becomeN_L33 (k_64 : Mm → Aa) (rec_33 : Int32 → Mm → Aa) (x6 : Int32) (m7 : Mm) : Aa := if 10 ≤ x6 then (k_64 m7) else (mm_ck x6 10 (mm_ck x6 10 (mm_ac 0 0 7 7 7 (mm_lt (mm_cp m7 ((17 + x6.toNatClampNeg)) ((4 + x6.toNatClampNeg)) (0 : Int32).toNatClampNeg (0 : Int32).toNatClampNeg (7 : Int32).toNatClampNeg) (fun (m10 : Mm) => mm_lt (x6 + 1) (fun (x11 : Int32) => rec_33 x11 m10))))))
def fX3_becomeN (μ : Mm) : Aa := mm_lt (mm_wr μ 1 0 (μ 14 0)) (fun (m1 : Mm) => mm_lt (mm_wr m1 1 1 (m1 14 1)) (fun (m2 : Mm) => mm_ac 0 0 6 6 6 (mm_lt (mm_cp m2 15 2 (0 : Int32).toNatClampNeg (0 : Int32).toNatClampNeg (6 : Int32).toNatClampNeg) (fun (m3 : Mm) => mm_lt 0 (fun (x4 : Int32) => mm_lt (fun (m5 : Mm) => some (0, m5)) (fun (k_64 : Mm → Aa) => mm_lk (fun (_ : Int32) (_ : Mm) => (none : Aa)) (fX3_becomeN_L33 k_64) mm_fu x4 m3))))))
abbrev rX3_becomeN : Room := { frames := 1, cells := 0, slots := 0, locals := 26 }
set_option maxRecDepth 100000 in
set_option maxHeartbeats 8000000 in
theorem tX3_becomeN {l : Launch} {D : va_G} {cA : Nat → ClassId} {adr : Nat → Nat} {tt sK sV : Nat → Nat} {qv : Value} (hJ : mm_J adr NX) (μ : Mm) : mm_Mv l D cA adr sX NX (mm_SX (mm_A adr NX) tt sK sV qv) yX3_become cX3_become 3 none rX3_becomeN [.ref (adr 1), .ref (adr 14)] μ (fX3_becomeN μ) := by
  refine mm_entryv hJ mm_okX (by decide) (Nat.le_of_ble_eq_true rfl) ⟨rfl, rfl⟩ (fun p e s m below meth c X hr => ?_)
  generalize ([.ref (adr 1), .ref (adr 14)] : List Value).toArray = args at X ⊢
  refine gx_lv (lv' := [(0, .ref (adr 1)), (1, .ref (adr 14))]) rfl ?_
  unfold fX3_becomeN
  refine gx_aload_n X 0 1 0 dX3_become_0 rfl rfl rfl ?_
  refine gx_aload_n X 1 2 1 dX3_become_1 rfl rfl rfl ?_
  refine gx_getI X 2 5 14 (by decide) rfl rfl fg_X3_9 dX3_become_2 rfl ?_
  refine gx_putI X 5 8 1 (by decide) rfl rfl fp_X3_9 dX3_become_5 rfl (fun m1 => ?_)
  refine gx_aload_n X 8 9 0 dX3_become_8 rfl rfl rfl ?_
  refine gx_aload_n X 9 10 1 dX3_become_9 rfl rfl rfl ?_
  refine gx_getI X 10 13 14 (by decide) rfl rfl fg_X3_33 dX3_become_10 rfl ?_
  refine gx_putI X 13 16 1 (by decide) rfl rfl fp_X3_33 dX3_become_13 rfl (fun m2 => ?_)
  refine gx_aload_n X 16 17 1 dX3_become_16 rfl rfl rfl ?_
  refine gx_getR X 17 20 14 (by decide) rfl rfl fg_X3_15 dX3_become_17 rfl ?_
  refine gx_iconst X 20 21 (0) dX3_become_20 rfl ci_0 ?_
  refine gx_aload_n X 21 22 0 dX3_become_21 rfl rfl rfl ?_
  refine gx_getR X 22 25 1 (by decide) rfl rfl fg_X3_15 dX3_become_22 rfl ?_
  refine gx_iconst X 25 26 (0) dX3_become_25 rfl ci_0 ?_
  refine gx_bipush X 26 28 (6) dX3_become_26 rfl cb_6 ?_
  refine gx_acopy X 28 31 15 2 (by decide) (by decide) rfl rfl wl_X3_27 (by decide) (Nat.le_of_ble_eq_true rfl) dX3_become_28 rfl (fun m3 => ?_)
  refine gx_iconst X 31 32 (0) dX3_become_31 rfl ci_0 ?_
  refine gx_istore_n X 32 33 (fun x4 => [(2, .int x4), (0, .ref (adr 1)), (1, .ref (adr 14))]) dX3_become_32 rfl rfl (by decide) (fun _ => rfl) (fun x4 => ?_)
  refine gx_jn (fun (k : Mm → Aa) => ∀ (m5 : Mm), mm_G p l e rX3_becomeN s m args below meth c 3 D cA adr sX NX (mm_Qv D cA adr sX NX) m5 64 [] [] (k m5)) ?_ (fun k_64 hk_64 => ?_)
  · intro m5
    exact gx_vret X 64 hr dX3_become_64
  refine gx_sub [1, 2, 0] rfl ?_
  refine mm_lk_ind (fun (rec : Int32 → Mm → Aa) => ∀ (x6 : Int32) (m7 : Mm), mm_G p l e rX3_becomeN s m args below meth c 3 D cA adr sX NX (mm_Qv D cA adr sX NX) m7 33 [(0, .ref (adr 1)), (1, .ref (adr 14)), (2, .int x6)] [] (rec x6 m7)) (fun _ _ => gx_none) (fun rec_33 hr_33 x6 m7 => ?_) mm_fu x4 m3
  unfold fX3_becomeN_L33
  refine gx_iload_n X 33 34 2 dX3_become_33 rfl rfl rfl ?_
  refine gx_bipush X 34 36 (10) dX3_become_34 rfl cb_10 ?_
  refine gx_icmp_ge X 36 64 39 dX3_become_36 rfl rfl ?_ ?_
  · refine gx_sub [] rfl ?_
    exact hk_64 m7
  refine gx_aload_n X 39 40 1 dX3_become_39 rfl rfl rfl ?_
  refine gx_getR X 40 43 14 (by decide) rfl rfl fg_X3_21 dX3_become_40 rfl ?_
  refine gx_iload_n X 43 44 2 dX3_become_43 rfl rfl rfl ?_
  refine gx_aaload X 44 45 16 (by decide) rfl rfl rfl dX3_become_44 rfl (fun h8 => ?_)
  refine gx_iconst X 45 46 (0) dX3_become_45 rfl ci_0 ?_
  refine gx_aload_n X 46 47 0 dX3_become_46 rfl rfl rfl ?_
  refine gx_getR X 47 50 1 (by decide) rfl rfl fg_X3_21 dX3_become_47 rfl ?_
  refine gx_iload_n X 50 51 2 dX3_become_50 rfl rfl rfl ?_
  refine gx_aaload X 51 52 3 (by decide) rfl rfl rfl dX3_become_51 rfl (fun h9 => ?_)
  refine gx_iconst X 52 53 (0) dX3_become_52 rfl ci_0 ?_
  refine gx_bipush X 53 55 (7) dX3_become_53 rfl cb_7 ?_
  refine gx_acopy X 55 58 ((17 + x6.toNatClampNeg)) ((4 + x6.toNatClampNeg)) (sX_gl h8) (sX_fl h9) (sX_g h8) (sX_f h9) wl_X3_27 (by decide) (Nat.le_of_ble_eq_true rfl) dX3_become_55 rfl (fun m10 => ?_)
  refine gx_iinc X 58 61 2 (1) (fun x11 => [(2, .int x11), (0, .ref (adr 1)), (1, .ref (adr 14))]) dX3_become_58 rfl rfl ci_1 (by decide) (fun _ => rfl) (fun x11 => ?_)
  refine gx_goto X 61 33 dX3_become_61 rfl ?_
  refine gx_sub [1, 2, 0] rfl ?_
  exact hr_33 x11 m10
