def fX7_restore_L38 (k_62 : Mm → Aa) (rec_38 : Int32 → Mm → Aa) (x7 : Int32) (m8 : Mm) : Aa := if 6 ≤ x7 then (k_62 m8) else (mm_ck x7 6 (mm_ck x7 6 (mm_lt (mm_wr m8 2 x7.toNatClampNeg (m8 24 x7.toNatClampNeg)) (fun (m9 : Mm) => mm_lt (x7 + 1) (fun (x10 : Int32) => rec_38 x10 m9)))))
def fX7_restore_L12 (k_36 : Mm → Aa) (rec_12 : Int32 → Mm → Aa) (x11 : Int32) (m12 : Mm) : Aa := if 70 ≤ x11 then (k_36 m12) else (mm_ck x11 70 (mm_ck x11 70 (mm_lt (mm_wr m12 1 x11.toNatClampNeg (m12 23 x11.toNatClampNeg)) (fun (m13 : Mm) => mm_lt (x11 + 1) (fun (x14 : Int32) => rec_12 x14 m13)))))
def fX7_restore (μ : Mm) : Aa := if (μ 0 35) = 0 then (some ((-4), μ)) else (mm_lt 0 (fun (x1 : Int32) => mm_lt (fun (m2 : Mm) => mm_lt 0 (fun (x3 : Int32) => mm_lt (fun (m4 : Mm) => mm_lt (mm_wr m4 0 1 (m4 0 38)) (fun (m5 : Mm) => mm_lt (mm_wr m5 0 3 (m5 0 39)) (fun (m6 : Mm) => some (1, m6)))) (fun (k_62 : Mm → Aa) => mm_lk (fun (_ : Int32) (_ : Mm) => (none : Aa)) (fX7_restore_L38 k_62) mm_fu x3 m2))) (fun (k_36 : Mm → Aa) => mm_lk (fun (_ : Int32) (_ : Mm) => (none : Aa)) (fX7_restore_L12 k_36) mm_fu x1 μ)))
abbrev rX7_restore : Room := { frames := 0, cells := 0, slots := 0, locals := 0 }
set_option maxRecDepth 100000 in
set_option maxHeartbeats 8000000 in
theorem tX7_restore {l : Launch} {D : va_G} {cA : Nat → ClassId} {adr : Nat → Nat} (hJ : mm_J adr NM) (μ : Mm) : mm_Mi l D cA adr sM NM mm_SM yX7_restore cX7_restore 2 (some .int) rX7_restore [.ref (adr 0)] μ (fX7_restore μ) := by
  refine mm_entryi hJ mm_okM (by decide) (Nat.le_of_ble_eq_true rfl) ⟨rfl, rfl⟩ (fun p e s m below meth c X hr => ?_)
  generalize ([.ref (adr 0)] : List Value).toArray = args at X ⊢
  refine gx_lv (lv' := [(0, .ref (adr 0))]) rfl ?_
  unfold fX7_restore
  refine gx_aload_n X 0 1 0 dX7_restore_0 rfl rfl rfl ?_
  refine gx_getI X 1 4 0 (by decide) rfl rfl fg_X7_316 dX7_restore_1 rfl ?_
  refine gx_if_ne X 4 10 7 dX7_restore_4 rfl rfl ?_ ?_
  · refine gx_iconst X 10 11 (0) dX7_restore_10 rfl ci_0 ?_
    refine gx_istore_n X 11 12 (fun x1 => [(1, .int x1), (0, .ref (adr 0))]) dX7_restore_11 rfl rfl (by decide) (fun _ => rfl) (fun x1 => ?_)
    refine gx_jn (fun (k : Mm → Aa) => ∀ (m2 : Mm), mm_G p l e rX7_restore s m args below meth c 2 D cA adr sM NM (mm_Qi D cA adr sM NM) m2 36 [(0, .ref (adr 0))] [] (k m2)) ?_ (fun k_36 hk_36 => ?_)
    · intro m2
      refine gx_iconst X 36 37 (0) dX7_restore_36 rfl ci_0 ?_
      refine gx_istore_n X 37 38 (fun x3 => [(1, .int x3), (0, .ref (adr 0))]) dX7_restore_37 rfl rfl (by decide) (fun _ => rfl) (fun x3 => ?_)
      refine gx_jn (fun (k : Mm → Aa) => ∀ (m4 : Mm), mm_G p l e rX7_restore s m args below meth c 2 D cA adr sM NM (mm_Qi D cA adr sM NM) m4 62 [(0, .ref (adr 0))] [] (k m4)) ?_ (fun k_62 hk_62 => ?_)
      · intro m4
        refine gx_aload_n X 62 63 0 dX7_restore_62 rfl rfl rfl ?_
        refine gx_aload_n X 63 64 0 dX7_restore_63 rfl rfl rfl ?_
        refine gx_getI X 64 67 0 (by decide) rfl rfl fg_X7_310 dX7_restore_64 rfl ?_
        refine gx_putI X 67 70 0 (by decide) rfl rfl fp_X7_98 dX7_restore_67 rfl (fun m5 => ?_)
        refine gx_aload_n X 70 71 0 dX7_restore_70 rfl rfl rfl ?_
        refine gx_aload_n X 71 72 0 dX7_restore_71 rfl rfl rfl ?_
        refine gx_getI X 72 75 0 (by decide) rfl rfl fg_X7_313 dX7_restore_72 rfl ?_
        refine gx_putI X 75 78 0 (by decide) rfl rfl fp_X7_16 dX7_restore_75 rfl (fun m6 => ?_)
        refine gx_iconst X 78 79 (1) dX7_restore_78 rfl ci_1 ?_
        exact gx_iret X 79 hr dX7_restore_79
      refine gx_sub [1, 0] rfl ?_
      refine mm_lk_ind (fun (rec : Int32 → Mm → Aa) => ∀ (x7 : Int32) (m8 : Mm), mm_G p l e rX7_restore s m args below meth c 2 D cA adr sM NM (mm_Qi D cA adr sM NM) m8 38 [(0, .ref (adr 0)), (1, .int x7)] [] (rec x7 m8)) (fun _ _ => gx_none) (fun rec_38 hr_38 x7 m8 => ?_) mm_fu x3 m2
      unfold fX7_restore_L38
      refine gx_iload_n X 38 39 1 dX7_restore_38 rfl rfl rfl ?_
      refine gx_bipush X 39 41 (6) dX7_restore_39 rfl cb_6 ?_
      refine gx_icmp_ge X 41 62 44 dX7_restore_41 rfl rfl ?_ ?_
      · refine gx_sub [0] rfl ?_
        exact hk_62 m8
      refine gx_aload_n X 44 45 0 dX7_restore_44 rfl rfl rfl ?_
      refine gx_getR X 45 48 0 (by decide) rfl rfl fg_X7_13 dX7_restore_45 rfl ?_
      refine gx_iload_n X 48 49 1 dX7_restore_48 rfl rfl rfl ?_
      refine gx_aload_n X 49 50 0 dX7_restore_49 rfl rfl rfl ?_
      refine gx_getR X 50 53 0 (by decide) rfl rfl fg_X7_86 dX7_restore_50 rfl ?_
      refine gx_iload_n X 53 54 1 dX7_restore_53 rfl rfl rfl ?_
      refine gx_iaload X 54 55 24 (by decide) rfl dX7_restore_54 rfl ?_
      refine gx_iastore X 55 56 2 (by decide) rfl dX7_restore_55 rfl (fun m9 => ?_)
      refine gx_iinc X 56 59 1 (1) (fun x10 => [(1, .int x10), (0, .ref (adr 0))]) dX7_restore_56 rfl rfl ci_1 (by decide) (fun _ => rfl) (fun x10 => ?_)
      refine gx_goto X 59 38 dX7_restore_59 rfl ?_
      refine gx_sub [1, 0] rfl ?_
      exact hr_38 x10 m9
    refine gx_sub [1, 0] rfl ?_
    refine mm_lk_ind (fun (rec : Int32 → Mm → Aa) => ∀ (x11 : Int32) (m12 : Mm), mm_G p l e rX7_restore s m args below meth c 2 D cA adr sM NM (mm_Qi D cA adr sM NM) m12 12 [(0, .ref (adr 0)), (1, .int x11)] [] (rec x11 m12)) (fun _ _ => gx_none) (fun rec_12 hr_12 x11 m12 => ?_) mm_fu x1 μ
    unfold fX7_restore_L12
    refine gx_iload_n X 12 13 1 dX7_restore_12 rfl rfl rfl ?_
    refine gx_bipush X 13 15 (70) dX7_restore_13 rfl cb_70 ?_
    refine gx_icmp_ge X 15 36 18 dX7_restore_15 rfl rfl ?_ ?_
    · refine gx_sub [0] rfl ?_
      exact hk_36 m12
    refine gx_aload_n X 18 19 0 dX7_restore_18 rfl rfl rfl ?_
    refine gx_getR X 19 22 0 (by decide) rfl rfl fg_X7_7 dX7_restore_19 rfl ?_
    refine gx_iload_n X 22 23 1 dX7_restore_22 rfl rfl rfl ?_
    refine gx_aload_n X 23 24 0 dX7_restore_23 rfl rfl rfl ?_
    refine gx_getR X 24 27 0 (by decide) rfl rfl fg_X7_83 dX7_restore_24 rfl ?_
    refine gx_iload_n X 27 28 1 dX7_restore_27 rfl rfl rfl ?_
    refine gx_iaload X 28 29 23 (by decide) rfl dX7_restore_28 rfl ?_
    refine gx_iastore X 29 30 1 (by decide) rfl dX7_restore_29 rfl (fun m13 => ?_)
    refine gx_iinc X 30 33 1 (1) (fun x14 => [(1, .int x14), (0, .ref (adr 0))]) dX7_restore_30 rfl rfl ci_1 (by decide) (fun _ => rfl) (fun x14 => ?_)
    refine gx_goto X 33 12 dX7_restore_33 rfl ?_
    refine gx_sub [1, 0] rfl ?_
    exact hr_12 x14 m13
  refine gx_bipush X 7 9 (-4) dX7_restore_7 rfl cb_m4 ?_
  exact gx_iret X 9 hr dX7_restore_9
def fX7_isSheet (a0 : Int32) (a1 : Int32) (μ : Mm) : Aa := mm_cl (fX7_in a0.toInt64 0 3 μ) (fun (x1 : Int32) (m2 : Mm) => mm_lt (fun (x3 : Int32) (m4 : Mm) => mm_bo x3 (some (x3, m4))) (fun (k_29 : Int32 → Mm → Aa) => mm_lt (fun (m5 : Mm) => k_29 0 m5) (fun (k_28 : Mm → Aa) => if x1 = 0 then (k_28 m2) else (mm_cl (fX7_in a1.toInt64 0 2 m2) (fun (x6 : Int32) (m7 : Mm) => if x6 = 0 then (k_28 m7) else (k_29 1 m7))))))
abbrev rX7_isSheet : Room := { frames := 1, cells := 0, slots := 0, locals := 25 }
set_option maxRecDepth 100000 in
set_option maxHeartbeats 8000000 in
theorem tX7_isSheet {l : Launch} {D : va_G} {cA : Nat → ClassId} {adr : Nat → Nat} (hJ : mm_J adr NM) (a0 : Int32) (a1 : Int32) (μ : Mm) : mm_Mi l D cA adr sM NM mm_SM yX7_isSheet cX7_isSheet 2 (some .boolean) rX7_isSheet [.int a0, .int a1] μ (fX7_isSheet a0 a1 μ) := by
  refine mm_entryi hJ mm_okM (by decide) (Nat.le_of_ble_eq_true rfl) ⟨rfl, rfl⟩ (fun p e s m below meth c X hr => ?_)
  generalize ([.int a0, .int a1] : List Value).toArray = args at X ⊢
  refine gx_lv (lv' := [(0, .int a0), (1, .int a1)]) rfl ?_
  unfold fX7_isSheet
  refine gx_iload_n X 0 1 0 dX7_isSheet_0 rfl rfl rfl ?_
  refine gx_i2l X 1 2 dX7_isSheet_1 rfl ?_
  refine gx_lconst X 2 3 (0) dX7_isSheet_2 rfl cl_0 ?_
  refine gx_ldc2_w X 3 6 wk_X7_118 dX7_isSheet_3 rfl ?_
  refine gx_calliS X 6 9 (rest := []) (As := [.long a0.toInt64, .long 0, .long 3]) (tX7_in hJ a0.toInt64 0 3 μ) wc_X7_in wl_X7_101 wt_X7_in wn_X7 hd_X7_in ⟨Nat.le_of_ble_eq_true rfl, Nat.le_of_ble_eq_true rfl⟩ ⟨rfl, rfl⟩ rfl rfl (Nat.le_of_ble_eq_true rfl) dX7_isSheet_6 rfl (fun x1 m2 => ?_)
  refine gx_jn (fun (k : Int32 → Mm → Aa) => ∀ (x3 : Int32) (m4 : Mm), mm_G p l e rX7_isSheet s m args below meth c 2 D cA adr sM NM (mm_Qi D cA adr sM NM) m4 29 [] [.int x3] (k x3 m4)) ?_ (fun k_29 hk_29 => ?_)
  · intro x3 m4
    exact gx_zret X 29 hr dX7_isSheet_29
  refine gx_jn (fun (k : Mm → Aa) => ∀ (m5 : Mm), mm_G p l e rX7_isSheet s m args below meth c 2 D cA adr sM NM (mm_Qi D cA adr sM NM) m5 28 [] [] (k m5)) ?_ (fun k_28 hk_28 => ?_)
  · intro m5
    refine gx_iconst X 28 29 (0) dX7_isSheet_28 rfl ci_0 ?_
    exact hk_29 0 m5
  refine gx_if_eq X 9 28 12 dX7_isSheet_9 rfl rfl ?_ ?_
  · refine gx_sub [] rfl ?_
    exact hk_28 m2
  refine gx_iload_n X 12 13 1 dX7_isSheet_12 rfl rfl rfl ?_
  refine gx_i2l X 13 14 dX7_isSheet_13 rfl ?_
  refine gx_lconst X 14 15 (0) dX7_isSheet_14 rfl cl_0 ?_
  refine gx_ldc2_w X 15 18 wk_X7_308 dX7_isSheet_15 rfl ?_
  refine gx_calliS X 18 21 (rest := []) (As := [.long a1.toInt64, .long 0, .long 2]) (tX7_in hJ a1.toInt64 0 2 m2) wc_X7_in wl_X7_101 wt_X7_in wn_X7 hd_X7_in ⟨Nat.le_of_ble_eq_true rfl, Nat.le_of_ble_eq_true rfl⟩ ⟨rfl, rfl⟩ rfl rfl (Nat.le_of_ble_eq_true rfl) dX7_isSheet_18 rfl (fun x6 m7 => ?_)
  refine gx_if_eq X 21 28 24 dX7_isSheet_21 rfl rfl ?_ ?_
  · refine gx_sub [] rfl ?_
    exact hk_28 m7
  refine gx_iconst X 24 25 (1) dX7_isSheet_24 rfl ci_1 ?_
  refine gx_goto X 25 29 dX7_isSheet_25 rfl ?_
  refine gx_sub [] rfl ?_
  exact hk_29 1 m7
def fX7_asLane (a0 : Int32) (a1 : Int32) (μ : Mm) : Aa := mm_lt (fun (x1 : Int32) (m2 : Mm) => some (x1, m2)) (fun (k_30 : Int32 → Mm → Aa) => if a0 = 0 then (k_30 ((a1 <<< (24 &&& 31)) >>> (24 &&& 31)) μ) else (if a0 = 1 then (k_30 ((a1 <<< (16 &&& 31)) >>> (16 &&& 31)) μ) else (k_30 a1 μ)))
abbrev rX7_asLane : Room := { frames := 0, cells := 0, slots := 0, locals := 0 }
set_option maxRecDepth 100000 in
set_option maxHeartbeats 8000000 in
theorem tX7_asLane {l : Launch} {D : va_G} {cA : Nat → ClassId} {adr : Nat → Nat} (hJ : mm_J adr NM) (a0 : Int32) (a1 : Int32) (μ : Mm) : mm_Mi l D cA adr sM NM mm_SM yX7_asLane cX7_asLane 2 (some .int) rX7_asLane [.int a0, .int a1] μ (fX7_asLane a0 a1 μ) := by
  refine mm_entryi hJ mm_okM (by decide) (Nat.le_of_ble_eq_true rfl) ⟨rfl, rfl⟩ (fun p e s m below meth c X hr => ?_)
  generalize ([.int a0, .int a1] : List Value).toArray = args at X ⊢
  refine gx_lv (lv' := [(0, .int a0), (1, .int a1)]) rfl ?_
  unfold fX7_asLane
  refine gx_iload_n X 0 1 0 dX7_asLane_0 rfl rfl rfl ?_
  refine gx_jn (fun (k : Int32 → Mm → Aa) => ∀ (x1 : Int32) (m2 : Mm), mm_G p l e rX7_asLane s m args below meth c 2 D cA adr sM NM (mm_Qi D cA adr sM NM) m2 30 [] [.int x1] (k x1 m2)) ?_ (fun k_30 hk_30 => ?_)
  · intro x1 m2
    exact gx_iret X 30 hr dX7_asLane_30
  refine gx_if_ne X 1 14 4 dX7_asLane_1 rfl rfl ?_ ?_
  · refine gx_iload_n X 14 15 0 dX7_asLane_14 rfl rfl rfl ?_
    refine gx_iconst X 15 16 (1) dX7_asLane_15 rfl ci_1 ?_
    refine gx_icmp_ne X 16 29 19 dX7_asLane_16 rfl rfl ?_ ?_
    · refine gx_iload_n X 29 30 1 dX7_asLane_29 rfl rfl rfl ?_
      refine gx_sub [] rfl ?_
      exact hk_30 a1 μ
    refine gx_iload_n X 19 20 1 dX7_asLane_19 rfl rfl rfl ?_
    refine gx_bipush X 20 22 (16) dX7_asLane_20 rfl cb_16 ?_
    refine gx_ishl X 22 23 dX7_asLane_22 rfl ?_
    refine gx_bipush X 23 25 (16) dX7_asLane_23 rfl cb_16 ?_
    refine gx_ishr X 25 26 dX7_asLane_25 rfl ?_
    refine gx_goto X 26 30 dX7_asLane_26 rfl ?_
    refine gx_sub [] rfl ?_
    exact hk_30 ((a1 <<< (16 &&& 31)) >>> (16 &&& 31)) μ
  refine gx_iload_n X 4 5 1 dX7_asLane_4 rfl rfl rfl ?_
  refine gx_bipush X 5 7 (24) dX7_asLane_5 rfl cb_24 ?_
  refine gx_ishl X 7 8 dX7_asLane_7 rfl ?_
  refine gx_bipush X 8 10 (24) dX7_asLane_8 rfl cb_24 ?_
  refine gx_ishr X 10 11 dX7_asLane_10 rfl ?_
  refine gx_goto X 11 30 dX7_asLane_11 rfl ?_
  refine gx_sub [] rfl ?_
  exact hk_30 ((a1 <<< (24 &&& 31)) >>> (24 &&& 31)) μ
def fX7_sheet_L40 (a1 : Int32) (k_66 : Mm → Aa) (rec_40 : Int32 → Mm → Aa) (x8 : Int32) (m9 : Mm) : Aa := if 24 ≤ x8 then (k_66 m9) else (mm_ck ((24 * a1) + x8) 96 (mm_lt (mm_wr m9 27 ((24 * a1) + x8).toNatClampNeg 0) (fun (m10 : Mm) => mm_lt (x8 + 1) (fun (x11 : Int32) => rec_40 x11 m10))))
def fX7_sheet (a1 : Int32) (a2 : Int32) (a3 : Int32) (μ : Mm) : Aa := mm_cl (fX7_isSheet a1 a2 μ) (fun (x1 : Int32) (m2 : Mm) => mm_lt (fun (m3 : Mm) => some ((-1), m3)) (fun (k_14 : Mm → Aa) => if x1 = 0 then (k_14 m2) else (if a3 ≤ 24 then (if 0 ≤ a3 then (mm_ck a1 4 (mm_lt (mm_wr m2 25 a1.toNatClampNeg a2) (fun (m4 : Mm) => mm_ck a1 4 (mm_lt (mm_wr m4 26 a1.toNatClampNeg a3) (fun (m5 : Mm) => mm_lt 0 (fun (x6 : Int32) => mm_lt (fun (m7 : Mm) => some (a3, m7)) (fun (k_66 : Mm → Aa) => mm_lk (fun (_ : Int32) (_ : Mm) => (none : Aa)) (fX7_sheet_L40 a1 k_66) mm_fu x6 m5))))))) else (some ((-14), m2))) else (k_14 m2))))
abbrev rX7_sheet : Room := { frames := 2, cells := 0, slots := 0, locals := 46 }
set_option maxRecDepth 100000 in
set_option maxHeartbeats 8000000 in
theorem tX7_sheet {l : Launch} {D : va_G} {cA : Nat → ClassId} {adr : Nat → Nat} (hJ : mm_J adr NM) (a1 : Int32) (a2 : Int32) (a3 : Int32) (μ : Mm) : mm_Mi l D cA adr sM NM mm_SM yX7_sheet cX7_sheet 5 (some .int) rX7_sheet [.ref (adr 0), .int a1, .int a2, .int a3] μ (fX7_sheet a1 a2 a3 μ) := by
  refine mm_entryi hJ mm_okM (by decide) (Nat.le_of_ble_eq_true rfl) ⟨rfl, rfl⟩ (fun p e s m below meth c X hr => ?_)
  generalize ([.ref (adr 0), .int a1, .int a2, .int a3] : List Value).toArray = args at X ⊢
  refine gx_lv (lv' := [(0, .ref (adr 0)), (1, .int a1), (2, .int a2), (3, .int a3)]) rfl ?_
  unfold fX7_sheet
  refine gx_iload_n X 0 1 1 dX7_sheet_0 rfl rfl rfl ?_
  refine gx_iload_n X 1 2 2 dX7_sheet_1 rfl rfl rfl ?_
  refine gx_calliS X 2 5 (rest := []) (As := [.int a1, .int a2]) (tX7_isSheet hJ a1 a2 μ) wc_X7_isSheet wl_X7_320 wt_X7_isSheet wn_X7 hd_X7_isSheet ⟨Nat.le_of_ble_eq_true rfl, Nat.le_of_ble_eq_true rfl⟩ ⟨rfl, rfl⟩ rfl rfl (Nat.le_of_ble_eq_true rfl) dX7_sheet_2 rfl (fun x1 m2 => ?_)
  refine gx_jn (fun (k : Mm → Aa) => ∀ (m3 : Mm), mm_G p l e rX7_sheet s m args below meth c 5 D cA adr sM NM (mm_Qi D cA adr sM NM) m3 14 [] [] (k m3)) ?_ (fun k_14 hk_14 => ?_)
  · intro m3
    refine gx_iconst X 14 15 (-1) dX7_sheet_14 rfl ci_m1 ?_
    exact gx_iret X 15 hr dX7_sheet_15
  refine gx_if_eq X 5 14 8 dX7_sheet_5 rfl rfl ?_ ?_
  · refine gx_sub [] rfl ?_
    exact hk_14 m2
  refine gx_iload_n X 8 9 3 dX7_sheet_8 rfl rfl rfl ?_
  refine gx_bipush X 9 11 (24) dX7_sheet_9 rfl cb_24 ?_
  refine gx_icmp_le X 11 16 14 dX7_sheet_11 rfl rfl ?_ ?_
  · refine gx_iload_n X 16 17 3 dX7_sheet_16 rfl rfl rfl ?_
    refine gx_if_ge X 17 23 20 dX7_sheet_17 rfl rfl ?_ ?_
    · refine gx_aload_n X 23 24 0 dX7_sheet_23 rfl rfl rfl ?_
      refine gx_getR X 24 27 0 (by decide) rfl rfl fg_X7_89 dX7_sheet_24 rfl ?_
      refine gx_iload_n X 27 28 1 dX7_sheet_27 rfl rfl rfl ?_
      refine gx_iload_n X 28 29 2 dX7_sheet_28 rfl rfl rfl ?_
      refine gx_iastore X 29 30 25 (by decide) rfl dX7_sheet_29 rfl (fun m4 => ?_)
      refine gx_aload_n X 30 31 0 dX7_sheet_30 rfl rfl rfl ?_
      refine gx_getR X 31 34 0 (by decide) rfl rfl fg_X7_92 dX7_sheet_31 rfl ?_
      refine gx_iload_n X 34 35 1 dX7_sheet_34 rfl rfl rfl ?_
      refine gx_iload_n X 35 36 3 dX7_sheet_35 rfl rfl rfl ?_
      refine gx_iastore X 36 37 26 (by decide) rfl dX7_sheet_36 rfl (fun m5 => ?_)
      refine gx_iconst X 37 38 (0) dX7_sheet_37 rfl ci_0 ?_
      refine gx_istore X 38 40 (fun x6 => [(4, .int x6), (0, .ref (adr 0)), (1, .int a1), (2, .int a2), (3, .int a3)]) dX7_sheet_38 rfl (by decide) (fun _ => rfl) (fun x6 => ?_)
      refine gx_jn (fun (k : Mm → Aa) => ∀ (m7 : Mm), mm_G p l e rX7_sheet s m args below meth c 5 D cA adr sM NM (mm_Qi D cA adr sM NM) m7 66 [(3, .int a3)] [] (k m7)) ?_ (fun k_66 hk_66 => ?_)
      · intro m7
        refine gx_iload_n X 66 67 0 dX7_sheet_66 rfl rfl rfl ?_
        exact gx_iret X 67 hr dX7_sheet_67
      refine gx_sub [1, 2, 4, 0] rfl ?_
      refine mm_lk_ind (fun (rec : Int32 → Mm → Aa) => ∀ (x8 : Int32) (m9 : Mm), mm_G p l e rX7_sheet s m args below meth c 5 D cA adr sM NM (mm_Qi D cA adr sM NM) m9 40 [(0, .ref (adr 0)), (1, .int a1), (3, .int a3), (4, .int x8)] [] (rec x8 m9)) (fun _ _ => gx_none) (fun rec_40 hr_40 x8 m9 => ?_) mm_fu x6 m5
      unfold fX7_sheet_L40
      refine gx_iload X 40 42 3 dX7_sheet_40 rfl rfl ?_
      refine gx_bipush X 42 44 (24) dX7_sheet_42 rfl cb_24 ?_
      refine gx_icmp_ge X 44 66 47 dX7_sheet_44 rfl rfl ?_ ?_
      · refine gx_sub [2] rfl ?_
        exact hk_66 m9
      refine gx_aload_n X 47 48 0 dX7_sheet_47 rfl rfl rfl ?_
      refine gx_getR X 48 51 0 (by decide) rfl rfl fg_X7_95 dX7_sheet_48 rfl ?_
      refine gx_bipush X 51 53 (24) dX7_sheet_51 rfl cb_24 ?_
      refine gx_iload_n X 53 54 1 dX7_sheet_53 rfl rfl rfl ?_
      refine gx_imul X 54 55 dX7_sheet_54 rfl ?_
      refine gx_iload X 55 57 3 dX7_sheet_55 rfl rfl ?_
      refine gx_iadd X 57 58 dX7_sheet_57 rfl ?_
      refine gx_iconst X 58 59 (0) dX7_sheet_58 rfl ci_0 ?_
      refine gx_iastore X 59 60 27 (by decide) rfl dX7_sheet_59 rfl (fun m10 => ?_)
      refine gx_iinc X 60 63 3 (1) (fun x11 => [(4, .int x11), (0, .ref (adr 0)), (1, .int a1), (3, .int a3)]) dX7_sheet_60 rfl rfl ci_1 (by decide) (fun _ => rfl) (fun x11 => ?_)
      refine gx_goto X 63 40 dX7_sheet_63 rfl ?_
      refine gx_sub [1, 2, 3, 0] rfl ?_
      exact hr_40 x11 m10
    refine gx_bipush X 20 22 (-14) dX7_sheet_20 rfl cb_m14 ?_
    exact gx_iret X 22 hr dX7_sheet_22
  refine gx_sub [] rfl ?_
  exact hk_14 m2
def fX7_drop (a1 : Int32) (μ : Mm) : Aa := mm_cl (fX7_in a1.toInt64 0 3 μ) (fun (x1 : Int32) (m2 : Mm) => if x1 = 0 then (some ((-1), m2)) else (mm_ck a1 4 (if 0 ≤ (m2 25 a1.toNatClampNeg) then (mm_ck a1 4 (mm_lt (mm_wr m2 25 a1.toNatClampNeg ((-1))) (fun (m3 : Mm) => mm_ck a1 4 (some (m3 26 a1.toNatClampNeg, m3))))) else (some ((-11), m2)))))
abbrev rX7_drop : Room := { frames := 1, cells := 0, slots := 0, locals := 25 }
set_option maxRecDepth 100000 in
set_option maxHeartbeats 8000000 in
theorem tX7_drop {l : Launch} {D : va_G} {cA : Nat → ClassId} {adr : Nat → Nat} (hJ : mm_J adr NM) (a1 : Int32) (μ : Mm) : mm_Mi l D cA adr sM NM mm_SM yX7_drop cX7_drop 2 (some .int) rX7_drop [.ref (adr 0), .int a1] μ (fX7_drop a1 μ) := by
  refine mm_entryi hJ mm_okM (by decide) (Nat.le_of_ble_eq_true rfl) ⟨rfl, rfl⟩ (fun p e s m below meth c X hr => ?_)
  generalize ([.ref (adr 0), .int a1] : List Value).toArray = args at X ⊢
  refine gx_lv (lv' := [(0, .ref (adr 0)), (1, .int a1)]) rfl ?_
  unfold fX7_drop
  refine gx_iload_n X 0 1 1 dX7_drop_0 rfl rfl rfl ?_
  refine gx_i2l X 1 2 dX7_drop_1 rfl ?_
  refine gx_lconst X 2 3 (0) dX7_drop_2 rfl cl_0 ?_
  refine gx_ldc2_w X 3 6 wk_X7_118 dX7_drop_3 rfl ?_
  refine gx_calliS X 6 9 (rest := []) (As := [.long a1.toInt64, .long 0, .long 3]) (tX7_in hJ a1.toInt64 0 3 μ) wc_X7_in wl_X7_101 wt_X7_in wn_X7 hd_X7_in ⟨Nat.le_of_ble_eq_true rfl, Nat.le_of_ble_eq_true rfl⟩ ⟨rfl, rfl⟩ rfl rfl (Nat.le_of_ble_eq_true rfl) dX7_drop_6 rfl (fun x1 m2 => ?_)
  refine gx_if_ne X 9 14 12 dX7_drop_9 rfl rfl ?_ ?_
  · refine gx_aload_n X 14 15 0 dX7_drop_14 rfl rfl rfl ?_
    refine gx_getR X 15 18 0 (by decide) rfl rfl fg_X7_89 dX7_drop_15 rfl ?_
    refine gx_iload_n X 18 19 1 dX7_drop_18 rfl rfl rfl ?_
    refine gx_iaload X 19 20 25 (by decide) rfl dX7_drop_19 rfl ?_
    refine gx_if_ge X 20 26 23 dX7_drop_20 rfl rfl ?_ ?_
    · refine gx_aload_n X 26 27 0 dX7_drop_26 rfl rfl rfl ?_
      refine gx_getR X 27 30 0 (by decide) rfl rfl fg_X7_89 dX7_drop_27 rfl ?_
      refine gx_iload_n X 30 31 1 dX7_drop_30 rfl rfl rfl ?_
      refine gx_iconst X 31 32 (-1) dX7_drop_31 rfl ci_m1 ?_
      refine gx_iastore X 32 33 25 (by decide) rfl dX7_drop_32 rfl (fun m3 => ?_)
      refine gx_aload_n X 33 34 0 dX7_drop_33 rfl rfl rfl ?_
      refine gx_getR X 34 37 0 (by decide) rfl rfl fg_X7_92 dX7_drop_34 rfl ?_
      refine gx_iload_n X 37 38 1 dX7_drop_37 rfl rfl rfl ?_
      refine gx_iaload X 38 39 26 (by decide) rfl dX7_drop_38 rfl ?_
      exact gx_iret X 39 hr dX7_drop_39
    refine gx_bipush X 23 25 (-11) dX7_drop_23 rfl cb_m11 ?_
    exact gx_iret X 25 hr dX7_drop_25
  refine gx_iconst X 12 13 (-1) dX7_drop_12 rfl ci_m1 ?_
  exact gx_iret X 13 hr dX7_drop_13
def fX7_lacksRow (a1 : Int32) (a2 : Int32) (a3 : Int32) (a4 : Int32) (μ : Mm) : Aa := mm_ck a1 4 (if (μ 25 a1.toNatClampNeg) = a2 then (mm_ck a1 4 (mm_cl (fX7_in a3.toInt64 0 (((μ 26 a1.toNatClampNeg) - a4).toInt64) μ) (fun (x1 : Int32) (m2 : Mm) => mm_lt (fun (x3 : Int32) (m4 : Mm) => some (x3, m4)) (fun (k_52 : Int32 → Mm → Aa) => if x1 = 0 then (k_52 ((-13)) m2) else (k_52 0 m2))))) else (mm_ck a1 4 (mm_lt (fun (x5 : Int32) (m6 : Mm) => some (x5, m6)) (fun (k_26 : Int32 → Mm → Aa) => if 0 ≤ (μ 25 a1.toNatClampNeg) then (k_26 ((-12)) μ) else (k_26 ((-11)) μ)))))
abbrev rX7_lacksRow : Room := { frames := 1, cells := 0, slots := 0, locals := 25 }
set_option maxRecDepth 100000 in
set_option maxHeartbeats 8000000 in
theorem tX7_lacksRow {l : Launch} {D : va_G} {cA : Nat → ClassId} {adr : Nat → Nat} (hJ : mm_J adr NM) (a1 : Int32) (a2 : Int32) (a3 : Int32) (a4 : Int32) (μ : Mm) : mm_Mi l D cA adr sM NM mm_SM yX7_lacksRow cX7_lacksRow 5 (some .int) rX7_lacksRow [.ref (adr 0), .int a1, .int a2, .int a3, .int a4] μ (fX7_lacksRow a1 a2 a3 a4 μ) := by
  refine mm_entryi hJ mm_okM (by decide) (Nat.le_of_ble_eq_true rfl) ⟨rfl, rfl⟩ (fun p e s m below meth c X hr => ?_)
  generalize ([.ref (adr 0), .int a1, .int a2, .int a3, .int a4] : List Value).toArray = args at X ⊢
  refine gx_lv (lv' := [(0, .ref (adr 0)), (1, .int a1), (2, .int a2), (3, .int a3), (4, .int a4)]) rfl ?_
  unfold fX7_lacksRow
  refine gx_aload_n X 0 1 0 dX7_lacksRow_0 rfl rfl rfl ?_
  refine gx_getR X 1 4 0 (by decide) rfl rfl fg_X7_89 dX7_lacksRow_1 rfl ?_
  refine gx_iload_n X 4 5 1 dX7_lacksRow_4 rfl rfl rfl ?_
  refine gx_iaload X 5 6 25 (by decide) rfl dX7_lacksRow_5 rfl ?_
  refine gx_iload_n X 6 7 2 dX7_lacksRow_6 rfl rfl rfl ?_
  refine gx_icmp_eq X 7 27 10 dX7_lacksRow_7 rfl rfl ?_ ?_
  · refine gx_iload_n X 27 28 3 dX7_lacksRow_27 rfl rfl rfl ?_
    refine gx_i2l X 28 29 dX7_lacksRow_28 rfl ?_
    refine gx_lconst X 29 30 (0) dX7_lacksRow_29 rfl cl_0 ?_
    refine gx_aload_n X 30 31 0 dX7_lacksRow_30 rfl rfl rfl ?_
    refine gx_getR X 31 34 0 (by decide) rfl rfl fg_X7_92 dX7_lacksRow_31 rfl ?_
    refine gx_iload_n X 34 35 1 dX7_lacksRow_34 rfl rfl rfl ?_
    refine gx_iaload X 35 36 26 (by decide) rfl dX7_lacksRow_35 rfl ?_
    refine gx_iload X 36 38 4 dX7_lacksRow_36 rfl rfl ?_
    refine gx_isub X 38 39 dX7_lacksRow_38 rfl ?_
    refine gx_i2l X 39 40 dX7_lacksRow_39 rfl ?_
    refine gx_calliS X 40 43 (rest := []) (As := [.long a3.toInt64, .long 0, .long (((μ 26 a1.toNatClampNeg) - a4).toInt64)]) (tX7_in hJ a3.toInt64 0 (((μ 26 a1.toNatClampNeg) - a4).toInt64) μ) wc_X7_in wl_X7_101 wt_X7_in wn_X7 hd_X7_in ⟨Nat.le_of_ble_eq_true rfl, Nat.le_of_ble_eq_true rfl⟩ ⟨rfl, rfl⟩ rfl rfl (Nat.le_of_ble_eq_true rfl) dX7_lacksRow_40 rfl (fun x1 m2 => ?_)
    refine gx_jn (fun (k : Int32 → Mm → Aa) => ∀ (x3 : Int32) (m4 : Mm), mm_G p l e rX7_lacksRow s m args below meth c 5 D cA adr sM NM (mm_Qi D cA adr sM NM) m4 52 [] [.int x3] (k x3 m4)) ?_ (fun k_52 hk_52 => ?_)
    · intro x3 m4
      exact gx_iret X 52 hr dX7_lacksRow_52
    refine gx_if_eq X 43 50 46 dX7_lacksRow_43 rfl rfl ?_ ?_
    · refine gx_bipush X 50 52 (-13) dX7_lacksRow_50 rfl cb_m13 ?_
      refine gx_sub [] rfl ?_
      exact hk_52 ((-13)) m2
    refine gx_iconst X 46 47 (0) dX7_lacksRow_46 rfl ci_0 ?_
    refine gx_goto X 47 52 dX7_lacksRow_47 rfl ?_
    refine gx_sub [] rfl ?_
    exact hk_52 0 m2
  refine gx_aload_n X 10 11 0 dX7_lacksRow_10 rfl rfl rfl ?_
  refine gx_getR X 11 14 0 (by decide) rfl rfl fg_X7_89 dX7_lacksRow_11 rfl ?_
  refine gx_iload_n X 14 15 1 dX7_lacksRow_14 rfl rfl rfl ?_
  refine gx_iaload X 15 16 25 (by decide) rfl dX7_lacksRow_15 rfl ?_
  refine gx_jn (fun (k : Int32 → Mm → Aa) => ∀ (x5 : Int32) (m6 : Mm), mm_G p l e rX7_lacksRow s m args below meth c 5 D cA adr sM NM (mm_Qi D cA adr sM NM) m6 26 [] [.int x5] (k x5 m6)) ?_ (fun k_26 hk_26 => ?_)
  · intro x5 m6
    exact gx_iret X 26 hr dX7_lacksRow_26
  refine gx_if_ge X 16 24 19 dX7_lacksRow_16 rfl rfl ?_ ?_
  · refine gx_bipush X 24 26 (-12) dX7_lacksRow_24 rfl cb_m12 ?_
    refine gx_sub [] rfl ?_
    exact hk_26 ((-12)) μ
  refine gx_bipush X 19 21 (-11) dX7_lacksRow_19 rfl cb_m11 ?_
  refine gx_goto X 21 26 dX7_lacksRow_21 rfl ?_
  refine gx_sub [] rfl ?_
  exact hk_26 ((-11)) μ
def fX7_item (a1 : Int32) (a2 : Int32) (a3 : Int32) (a4 : Int32) (μ : Mm) : Aa := mm_cl (fX7_isSheet a1 a2 μ) (fun (x1 : Int32) (m2 : Mm) => if x1 = 0 then (some ((-1), m2)) else (mm_cl (fX7_lacksRow a1 a2 a3 1 m2) (fun (x3 : Int32) (m4 : Mm) => mm_lt x3 (fun (x5 : Int32) => if 0 ≤ x5 then (mm_cl (fX7_asLane a2 a4 m4) (fun (x6 : Int32) (m7 : Mm) => mm_ck ((24 * a1) + a3) 96 (mm_lt (mm_wr m7 27 ((24 * a1) + a3).toNatClampNeg x6) (fun (m8 : Mm) => some (1, m8))))) else (some (x5, m4))))))
abbrev rX7_item : Room := { frames := 2, cells := 0, slots := 0, locals := 49 }
set_option maxRecDepth 100000 in
set_option maxHeartbeats 8000000 in
theorem tX7_item {l : Launch} {D : va_G} {cA : Nat → ClassId} {adr : Nat → Nat} (hJ : mm_J adr NM) (a1 : Int32) (a2 : Int32) (a3 : Int32) (a4 : Int32) (μ : Mm) : mm_Mi l D cA adr sM NM mm_SM yX7_item cX7_item 6 (some .int) rX7_item [.ref (adr 0), .int a1, .int a2, .int a3, .int a4] μ (fX7_item a1 a2 a3 a4 μ) := by
  refine mm_entryi hJ mm_okM (by decide) (Nat.le_of_ble_eq_true rfl) ⟨rfl, rfl⟩ (fun p e s m below meth c X hr => ?_)
  generalize ([.ref (adr 0), .int a1, .int a2, .int a3, .int a4] : List Value).toArray = args at X ⊢
  refine gx_lv (lv' := [(0, .ref (adr 0)), (1, .int a1), (2, .int a2), (3, .int a3), (4, .int a4)]) rfl ?_
  unfold fX7_item
  refine gx_iload_n X 0 1 1 dX7_item_0 rfl rfl rfl ?_
  refine gx_iload_n X 1 2 2 dX7_item_1 rfl rfl rfl ?_
  refine gx_calliS X 2 5 (rest := []) (As := [.int a1, .int a2]) (tX7_isSheet hJ a1 a2 μ) wc_X7_isSheet wl_X7_320 wt_X7_isSheet wn_X7 hd_X7_isSheet ⟨Nat.le_of_ble_eq_true rfl, Nat.le_of_ble_eq_true rfl⟩ ⟨rfl, rfl⟩ rfl rfl (Nat.le_of_ble_eq_true rfl) dX7_item_2 rfl (fun x1 m2 => ?_)
  refine gx_if_ne X 5 10 8 dX7_item_5 rfl rfl ?_ ?_
  · refine gx_aload_n X 10 11 0 dX7_item_10 rfl rfl rfl ?_
    refine gx_iload_n X 11 12 1 dX7_item_11 rfl rfl rfl ?_
    refine gx_iload_n X 12 13 2 dX7_item_12 rfl rfl rfl ?_
    refine gx_iload_n X 13 14 3 dX7_item_13 rfl rfl rfl ?_
    refine gx_iconst X 14 15 (1) dX7_item_14 rfl ci_1 ?_
    refine gx_calliV X 15 18 0 (rest := []) (As := [.int a1, .int a2, .int a3, .int 1]) (tX7_lacksRow hJ a1 a2 a3 1 m2) (by decide) rfl rfl wc_X7_lacksRow wl_X7_323 wi_X7_lacksRow ws_X7_lacksRow wn_X7 rfl hd_X7_lacksRow ⟨Nat.le_of_ble_eq_true rfl, Nat.le_of_ble_eq_true rfl⟩ ⟨rfl, rfl⟩ rfl rfl (Nat.le_of_ble_eq_true rfl) dX7_item_15 rfl (fun x3 m4 => ?_)
    refine gx_istore X 18 20 (fun x5 => [(5, .int x5), (0, .ref (adr 0)), (1, .int a1), (2, .int a2), (3, .int a3), (4, .int a4)]) dX7_item_18 rfl (by decide) (fun _ => rfl) (fun x5 => ?_)
    refine gx_iload X 20 22 0 dX7_item_20 rfl rfl ?_
    refine gx_if_ge X 22 28 25 dX7_item_22 rfl rfl ?_ ?_
    · refine gx_aload_n X 28 29 1 dX7_item_28 rfl rfl rfl ?_
      refine gx_getR X 29 32 0 (by decide) rfl rfl fg_X7_95 dX7_item_29 rfl ?_
      refine gx_bipush X 32 34 (24) dX7_item_32 rfl cb_24 ?_
      refine gx_iload_n X 34 35 2 dX7_item_34 rfl rfl rfl ?_
      refine gx_imul X 35 36 dX7_item_35 rfl ?_
      refine gx_iload_n X 36 37 4 dX7_item_36 rfl rfl rfl ?_
      refine gx_iadd X 37 38 dX7_item_37 rfl ?_
      refine gx_iload_n X 38 39 3 dX7_item_38 rfl rfl rfl ?_
      refine gx_iload X 39 41 5 dX7_item_39 rfl rfl ?_
      refine gx_calliS X 41 44 (rest := [.int ((24 * a1) + a3), .ref (adr 27)]) (As := [.int a2, .int a4]) (tX7_asLane hJ a2 a4 m4) wc_X7_asLane wl_X7_326 wt_X7_asLane wn_X7 hd_X7_asLane ⟨Nat.le_of_ble_eq_true rfl, Nat.le_of_ble_eq_true rfl⟩ ⟨rfl, rfl⟩ rfl rfl (Nat.le_of_ble_eq_true rfl) dX7_item_41 rfl (fun x6 m7 => ?_)
      refine gx_iastore X 44 45 27 (by decide) rfl dX7_item_44 rfl (fun m8 => ?_)
      refine gx_iconst X 45 46 (1) dX7_item_45 rfl ci_1 ?_
      exact gx_iret X 46 hr dX7_item_46
    refine gx_iload X 25 27 0 dX7_item_25 rfl rfl ?_
    exact gx_iret X 27 hr dX7_item_27
  refine gx_iconst X 8 9 (-1) dX7_item_8 rfl ci_m1 ?_
  exact gx_iret X 9 hr dX7_item_9
def fX7_crowd_L127 (x15 : Int32) (x17 : Int32) (k_161 : Mm → Aa) (rec_127 : Int32 → Mm → Aa) (x23 : Int32) (m24 : Mm) : Aa := if 5 ≤ x23 then (k_161 m24) else (mm_ck (x17 + x23) 96 (mm_ck ((5 * x15) + x23) 30 (mm_lt (mm_wr m24 4 ((5 * x15) + x23).toNatClampNeg (m24 27 (x17 + x23).toNatClampNeg)) (fun (m25 : Mm) => mm_lt (x23 + 1) (fun (x26 : Int32) => rec_127 x26 m25)))))
def fX7_crowd_L47 (a1 : Int32) (a3 : Int32) (a4 : Int32) (k_121 : Mm → Aa) (k_167 : Mm → Aa) (rec_47 : Int32 → Mm → Aa) (x15 : Int32) (m16 : Mm) : Aa := if a4 ≤ x15 then (k_167 m16) else (mm_lt (((24 * a1) + a3) + (5 * x15)) (fun (x17 : Int32) => mm_ck x17 96 (mm_ck (x17 + 1) 96 (mm_ck (x17 + 2) 96 (mm_ck (x17 + 3) 96 (mm_ck (x17 + 4) 96 (mm_cl (fX7_may ((m16 27 x17.toNatClampNeg).toInt64) ((m16 27 (x17 + 1).toNatClampNeg).toInt64) ((m16 27 (x17 + 2).toNatClampNeg).toInt64) ((m16 27 (x17 + 3).toNatClampNeg).toInt64) ((m16 27 (x17 + 4).toNatClampNeg).toInt64) m16) (fun (x18 : Int32) (m19 : Mm) => if x18 = 0 then (k_121 m19) else (mm_lt 0 (fun (x20 : Int32) => mm_lt (fun (m21 : Mm) => mm_lt (x15 + 1) (fun (x22 : Int32) => rec_47 x22 m21)) (fun (k_161 : Mm → Aa) => mm_lk (fun (_ : Int32) (_ : Mm) => (none : Aa)) (fX7_crowd_L127 x15 x17 k_161) mm_fu x20 m19)))))))))))
def fX7_crowd (a1 : Int32) (a2 : Int32) (a3 : Int32) (a4 : Int32) (μ : Mm) : Aa := mm_cl (fX7_isSheet a1 a2 μ) (fun (x1 : Int32) (m2 : Mm) => mm_lt (fun (m3 : Mm) => some ((-1), m3)) (fun (k_21 : Mm → Aa) => if x1 = 0 then (k_21 m2) else (mm_cl (fX7_in a4.toInt64 1 4 m2) (fun (x4 : Int32) (m5 : Mm) => if x4 = 0 then (k_21 m5) else (mm_cl (fX7_lacksRow a1 a2 a3 (5 * a4) m5) (fun (x6 : Int32) (m7 : Mm) => mm_lt x6 (fun (x8 : Int32) => if 0 ≤ x8 then (mm_lt 0 (fun (x9 : Int32) => mm_lt (fun (m10 : Mm) => if ((m10 0 1) + a4) ≤ 10 then (mm_lt (mm_wr m10 0 7 a4) (fun (m11 : Mm) => mm_cl (fX7_addRead m11) (fun (x12 : Int32) (m13 : Mm) => some (a4, m13)))) else (some ((-3), m10))) (fun (k_167 : Mm → Aa) => mm_lt (fun (m14 : Mm) => some ((-2), m14)) (fun (k_121 : Mm → Aa) => mm_lk (fun (_ : Int32) (_ : Mm) => (none : Aa)) (fX7_crowd_L47 a1 a3 a4 k_121 k_167) mm_fu x9 m7)))) else (some (x8, m7)))))))))
abbrev rX7_crowd : Room := { frames := 2, cells := 0, slots := 0, locals := 54 }
set_option maxRecDepth 100000 in
set_option maxHeartbeats 8000000 in
theorem tX7_crowd {l : Launch} {D : va_G} {cA : Nat → ClassId} {adr : Nat → Nat} (hJ : mm_J adr NM) (a1 : Int32) (a2 : Int32) (a3 : Int32) (a4 : Int32) (μ : Mm) : mm_Mi l D cA adr sM NM mm_SM yX7_crowd cX7_crowd 9 (some .int) rX7_crowd [.ref (adr 0), .int a1, .int a2, .int a3, .int a4] μ (fX7_crowd a1 a2 a3 a4 μ) := by
  refine mm_entryi hJ mm_okM (by decide) (Nat.le_of_ble_eq_true rfl) ⟨rfl, rfl⟩ (fun p e s m below meth c X hr => ?_)
  generalize ([.ref (adr 0), .int a1, .int a2, .int a3, .int a4] : List Value).toArray = args at X ⊢
  refine gx_lv (lv' := [(0, .ref (adr 0)), (1, .int a1), (2, .int a2), (3, .int a3), (4, .int a4)]) rfl ?_
  unfold fX7_crowd
  refine gx_iload_n X 0 1 1 dX7_crowd_0 rfl rfl rfl ?_
  refine gx_iload_n X 1 2 2 dX7_crowd_1 rfl rfl rfl ?_
  refine gx_calliS X 2 5 (rest := []) (As := [.int a1, .int a2]) (tX7_isSheet hJ a1 a2 μ) wc_X7_isSheet wl_X7_320 wt_X7_isSheet wn_X7 hd_X7_isSheet ⟨Nat.le_of_ble_eq_true rfl, Nat.le_of_ble_eq_true rfl⟩ ⟨rfl, rfl⟩ rfl rfl (Nat.le_of_ble_eq_true rfl) dX7_crowd_2 rfl (fun x1 m2 => ?_)
  refine gx_jn (fun (k : Mm → Aa) => ∀ (m3 : Mm), mm_G p l e rX7_crowd s m args below meth c 9 D cA adr sM NM (mm_Qi D cA adr sM NM) m3 21 [] [] (k m3)) ?_ (fun k_21 hk_21 => ?_)
  · intro m3
    refine gx_iconst X 21 22 (-1) dX7_crowd_21 rfl ci_m1 ?_
    exact gx_iret X 22 hr dX7_crowd_22
  refine gx_if_eq X 5 21 8 dX7_crowd_5 rfl rfl ?_ ?_
  · refine gx_sub [] rfl ?_
    exact hk_21 m2
  refine gx_iload X 8 10 4 dX7_crowd_8 rfl rfl ?_
  refine gx_i2l X 10 11 dX7_crowd_10 rfl ?_
  refine gx_lconst X 11 12 (1) dX7_crowd_11 rfl cl_1 ?_
  refine gx_ldc2_w X 12 15 wk_X7_243 dX7_crowd_12 rfl ?_
  refine gx_calliS X 15 18 (rest := []) (As := [.long a4.toInt64, .long 1, .long 4]) (tX7_in hJ a4.toInt64 1 4 m2) wc_X7_in wl_X7_101 wt_X7_in wn_X7 hd_X7_in ⟨Nat.le_of_ble_eq_true rfl, Nat.le_of_ble_eq_true rfl⟩ ⟨rfl, rfl⟩ rfl rfl (Nat.le_of_ble_eq_true rfl) dX7_crowd_15 rfl (fun x4 m5 => ?_)
  refine gx_if_ne X 18 23 21 dX7_crowd_18 rfl rfl ?_ ?_
  · refine gx_aload_n X 23 24 0 dX7_crowd_23 rfl rfl rfl ?_
    refine gx_iload_n X 24 25 1 dX7_crowd_24 rfl rfl rfl ?_
    refine gx_iload_n X 25 26 2 dX7_crowd_25 rfl rfl rfl ?_
    refine gx_iload_n X 26 27 3 dX7_crowd_26 rfl rfl rfl ?_
    refine gx_iconst X 27 28 (5) dX7_crowd_27 rfl ci_5 ?_
    refine gx_iload X 28 30 4 dX7_crowd_28 rfl rfl ?_
    refine gx_imul X 30 31 dX7_crowd_30 rfl ?_
    refine gx_calliV X 31 34 0 (rest := []) (As := [.int a1, .int a2, .int a3, .int (5 * a4)]) (tX7_lacksRow hJ a1 a2 a3 (5 * a4) m5) (by decide) rfl rfl wc_X7_lacksRow wl_X7_323 wi_X7_lacksRow ws_X7_lacksRow wn_X7 rfl hd_X7_lacksRow ⟨Nat.le_of_ble_eq_true rfl, Nat.le_of_ble_eq_true rfl⟩ ⟨rfl, rfl⟩ rfl rfl (Nat.le_of_ble_eq_true rfl) dX7_crowd_31 rfl (fun x6 m7 => ?_)
    refine gx_istore X 34 36 (fun x8 => [(5, .int x8), (0, .ref (adr 0)), (1, .int a1), (2, .int a2), (3, .int a3), (4, .int a4)]) dX7_crowd_34 rfl (by decide) (fun _ => rfl) (fun x8 => ?_)
    refine gx_iload X 36 38 0 dX7_crowd_36 rfl rfl ?_
    refine gx_if_ge X 38 44 41 dX7_crowd_38 rfl rfl ?_ ?_
    · refine gx_iconst X 44 45 (0) dX7_crowd_44 rfl ci_0 ?_
      refine gx_istore X 45 47 (fun x9 => [(6, .int x9), (5, .int x8), (0, .ref (adr 0)), (1, .int a1), (2, .int a2), (3, .int a3), (4, .int a4)]) dX7_crowd_45 rfl (by decide) (fun _ => rfl) (fun x9 => ?_)
      refine gx_jn (fun (k : Mm → Aa) => ∀ (m10 : Mm), mm_G p l e rX7_crowd s m args below meth c 9 D cA adr sM NM (mm_Qi D cA adr sM NM) m10 167 [(0, .ref (adr 0)), (4, .int a4)] [] (k m10)) ?_ (fun k_167 hk_167 => ?_)
      · intro m10
        refine gx_aload_n X 167 168 0 dX7_crowd_167 rfl rfl rfl ?_
        refine gx_getI X 168 171 0 (by decide) rfl rfl fg_X7_98 dX7_crowd_168 rfl ?_
        refine gx_iload X 171 173 1 dX7_crowd_171 rfl rfl ?_
        refine gx_iadd X 173 174 dX7_crowd_173 rfl ?_
        refine gx_bipush X 174 176 (10) dX7_crowd_174 rfl cb_10 ?_
        refine gx_icmp_le X 176 182 179 dX7_crowd_176 rfl rfl ?_ ?_
        · refine gx_aload_n X 182 183 0 dX7_crowd_182 rfl rfl rfl ?_
          refine gx_iload X 183 185 1 dX7_crowd_183 rfl rfl ?_
          refine gx_putI X 185 188 0 (by decide) rfl rfl fp_X7_169 dX7_crowd_185 rfl (fun m11 => ?_)
          refine gx_aload_n X 188 189 0 dX7_crowd_188 rfl rfl rfl ?_
          refine gx_callvV X 189 192 0 (rest := []) (As := []) (tX7_addRead hJ m11) (by decide) rfl rfl wc_X7_addRead wl_X7_188 wi_X7_addRead ws_X7_addRead wn_X7 rfl hd_X7_addRead ⟨Nat.le_of_ble_eq_true rfl, Nat.le_of_ble_eq_true rfl⟩ ⟨rfl, rfl⟩ rfl rfl (Nat.le_of_ble_eq_true rfl) dX7_crowd_189 rfl (fun x12 m13 => ?_)
          refine gx_iload X 192 194 1 dX7_crowd_192 rfl rfl ?_
          exact gx_iret X 194 hr dX7_crowd_194
        refine gx_bipush X 179 181 (-3) dX7_crowd_179 rfl cb_m3 ?_
        exact gx_iret X 181 hr dX7_crowd_181
      refine gx_jn (fun (k : Mm → Aa) => ∀ (m14 : Mm), mm_G p l e rX7_crowd s m args below meth c 9 D cA adr sM NM (mm_Qi D cA adr sM NM) m14 121 [] [] (k m14)) ?_ (fun k_121 hk_121 => ?_)
      · intro m14
        refine gx_bipush X 121 123 (-2) dX7_crowd_121 rfl cb_m2 ?_
        exact gx_iret X 123 hr dX7_crowd_123
      refine gx_sub [2, 3, 5, 6, 0] rfl ?_
      refine mm_lk_ind (fun (rec : Int32 → Mm → Aa) => ∀ (x15 : Int32) (m16 : Mm), mm_G p l e rX7_crowd s m args below meth c 9 D cA adr sM NM (mm_Qi D cA adr sM NM) m16 47 [(0, .ref (adr 0)), (1, .int a1), (3, .int a3), (4, .int a4), (6, .int x15)] [] (rec x15 m16)) (fun _ _ => gx_none) (fun rec_47 hr_47 x15 m16 => ?_) mm_fu x9 m7
      unfold fX7_crowd_L47
      refine gx_iload X 47 49 4 dX7_crowd_47 rfl rfl ?_
      refine gx_iload X 49 51 3 dX7_crowd_49 rfl rfl ?_
      refine gx_icmp_ge X 51 167 54 dX7_crowd_51 rfl rfl ?_ ?_
      · refine gx_sub [0, 3] rfl ?_
        exact hk_167 m16
      refine gx_bipush X 54 56 (24) dX7_crowd_54 rfl cb_24 ?_
      refine gx_iload_n X 56 57 1 dX7_crowd_56 rfl rfl rfl ?_
      refine gx_imul X 57 58 dX7_crowd_57 rfl ?_
      refine gx_iload_n X 58 59 2 dX7_crowd_58 rfl rfl rfl ?_
      refine gx_iadd X 59 60 dX7_crowd_59 rfl ?_
      refine gx_iconst X 60 61 (5) dX7_crowd_60 rfl ci_5 ?_
      refine gx_iload X 61 63 4 dX7_crowd_61 rfl rfl ?_
      refine gx_imul X 63 64 dX7_crowd_63 rfl ?_
      refine gx_iadd X 64 65 dX7_crowd_64 rfl ?_
      refine gx_istore X 65 67 (fun x17 => [(7, .int x17), (0, .ref (adr 0)), (1, .int a1), (3, .int a3), (4, .int a4), (6, .int x15)]) dX7_crowd_65 rfl (by decide) (fun _ => rfl) (fun x17 => ?_)
      refine gx_aload_n X 67 68 1 dX7_crowd_67 rfl rfl rfl ?_
      refine gx_getR X 68 71 0 (by decide) rfl rfl fg_X7_95 dX7_crowd_68 rfl ?_
      refine gx_iload X 71 73 0 dX7_crowd_71 rfl rfl ?_
      refine gx_iaload X 73 74 27 (by decide) rfl dX7_crowd_73 rfl ?_
      refine gx_i2l X 74 75 dX7_crowd_74 rfl ?_
      refine gx_aload_n X 75 76 1 dX7_crowd_75 rfl rfl rfl ?_
      refine gx_getR X 76 79 0 (by decide) rfl rfl fg_X7_95 dX7_crowd_76 rfl ?_
      refine gx_iload X 79 81 0 dX7_crowd_79 rfl rfl ?_
      refine gx_iconst X 81 82 (1) dX7_crowd_81 rfl ci_1 ?_
      refine gx_iadd X 82 83 dX7_crowd_82 rfl ?_
      refine gx_iaload X 83 84 27 (by decide) rfl dX7_crowd_83 rfl ?_
      refine gx_i2l X 84 85 dX7_crowd_84 rfl ?_
      refine gx_aload_n X 85 86 1 dX7_crowd_85 rfl rfl rfl ?_
      refine gx_getR X 86 89 0 (by decide) rfl rfl fg_X7_95 dX7_crowd_86 rfl ?_
      refine gx_iload X 89 91 0 dX7_crowd_89 rfl rfl ?_
      refine gx_iconst X 91 92 (2) dX7_crowd_91 rfl ci_2 ?_
      refine gx_iadd X 92 93 dX7_crowd_92 rfl ?_
      refine gx_iaload X 93 94 27 (by decide) rfl dX7_crowd_93 rfl ?_
      refine gx_i2l X 94 95 dX7_crowd_94 rfl ?_
      refine gx_aload_n X 95 96 1 dX7_crowd_95 rfl rfl rfl ?_
      refine gx_getR X 96 99 0 (by decide) rfl rfl fg_X7_95 dX7_crowd_96 rfl ?_
      refine gx_iload X 99 101 0 dX7_crowd_99 rfl rfl ?_
      refine gx_iconst X 101 102 (3) dX7_crowd_101 rfl ci_3 ?_
      refine gx_iadd X 102 103 dX7_crowd_102 rfl ?_
      refine gx_iaload X 103 104 27 (by decide) rfl dX7_crowd_103 rfl ?_
      refine gx_i2l X 104 105 dX7_crowd_104 rfl ?_
      refine gx_aload_n X 105 106 1 dX7_crowd_105 rfl rfl rfl ?_
      refine gx_getR X 106 109 0 (by decide) rfl rfl fg_X7_95 dX7_crowd_106 rfl ?_
      refine gx_iload X 109 111 0 dX7_crowd_109 rfl rfl ?_
      refine gx_iconst X 111 112 (4) dX7_crowd_111 rfl ci_4 ?_
      refine gx_iadd X 112 113 dX7_crowd_112 rfl ?_
      refine gx_iaload X 113 114 27 (by decide) rfl dX7_crowd_113 rfl ?_
      refine gx_i2l X 114 115 dX7_crowd_114 rfl ?_
      refine gx_calliS X 115 118 (rest := []) (As := [.long ((m16 27 x17.toNatClampNeg).toInt64), .long ((m16 27 (x17 + 1).toNatClampNeg).toInt64), .long ((m16 27 (x17 + 2).toNatClampNeg).toInt64), .long ((m16 27 (x17 + 3).toNatClampNeg).toInt64), .long ((m16 27 (x17 + 4).toNatClampNeg).toInt64)]) (tX7_may hJ ((m16 27 x17.toNatClampNeg).toInt64) ((m16 27 (x17 + 1).toNatClampNeg).toInt64) ((m16 27 (x17 + 2).toNatClampNeg).toInt64) ((m16 27 (x17 + 3).toNatClampNeg).toInt64) ((m16 27 (x17 + 4).toNatClampNeg).toInt64) m16) wc_X7_may wl_X7_124 wt_X7_may wn_X7 hd_X7_may ⟨Nat.le_of_ble_eq_true rfl, Nat.le_of_ble_eq_true rfl⟩ ⟨rfl, rfl⟩ rfl rfl (Nat.le_of_ble_eq_true rfl) dX7_crowd_115 rfl (fun x18 m19 => ?_)
      refine gx_if_ne X 118 124 121 dX7_crowd_118 rfl rfl ?_ ?_
      · refine gx_iconst X 124 125 (0) dX7_crowd_124 rfl ci_0 ?_
        refine gx_istore X 125 127 (fun x20 => [(8, .int x20), (7, .int x17), (0, .ref (adr 0)), (1, .int a1), (3, .int a3), (4, .int a4), (6, .int x15)]) dX7_crowd_125 rfl (by decide) (fun _ => rfl) (fun x20 => ?_)
        refine gx_jn (fun (k : Mm → Aa) => ∀ (m21 : Mm), mm_G p l e rX7_crowd s m args below meth c 9 D cA adr sM NM (mm_Qi D cA adr sM NM) m21 161 [(0, .ref (adr 0)), (1, .int a1), (3, .int a3), (4, .int a4), (6, .int x15)] [] (k m21)) ?_ (fun k_161 hk_161 => ?_)
        · intro m21
          refine gx_iinc X 161 164 4 (1) (fun x22 => [(6, .int x22), (0, .ref (adr 0)), (1, .int a1), (3, .int a3), (4, .int a4)]) dX7_crowd_161 rfl rfl ci_1 (by decide) (fun _ => rfl) (fun x22 => ?_)
          refine gx_goto X 164 47 dX7_crowd_164 rfl ?_
          refine gx_sub [1, 2, 3, 4, 0] rfl ?_
          exact hr_47 x22 m21
        refine gx_sub [2, 3, 4, 5, 6, 1, 0] rfl ?_
        refine mm_lk_ind (fun (rec : Int32 → Mm → Aa) => ∀ (x23 : Int32) (m24 : Mm), mm_G p l e rX7_crowd s m args below meth c 9 D cA adr sM NM (mm_Qi D cA adr sM NM) m24 127 [(0, .ref (adr 0)), (1, .int a1), (3, .int a3), (4, .int a4), (6, .int x15), (7, .int x17), (8, .int x23)] [] (rec x23 m24)) (fun _ _ => gx_none) (fun rec_127 hr_127 x23 m24 => ?_) mm_fu x20 m19
        unfold fX7_crowd_L127
        refine gx_iload X 127 129 6 dX7_crowd_127 rfl rfl ?_
        refine gx_iconst X 129 130 (5) dX7_crowd_129 rfl ci_5 ?_
        refine gx_icmp_ge X 130 161 133 dX7_crowd_130 rfl rfl ?_ ?_
        · refine gx_sub [0, 1, 2, 3, 4] rfl ?_
          exact hk_161 m24
        refine gx_aload_n X 133 134 0 dX7_crowd_133 rfl rfl rfl ?_
        refine gx_getR X 134 137 0 (by decide) rfl rfl fg_X7_23 dX7_crowd_134 rfl ?_
        refine gx_iconst X 137 138 (5) dX7_crowd_137 rfl ci_5 ?_
        refine gx_iload X 138 140 4 dX7_crowd_138 rfl rfl ?_
        refine gx_imul X 140 141 dX7_crowd_140 rfl ?_
        refine gx_iload X 141 143 6 dX7_crowd_141 rfl rfl ?_
        refine gx_iadd X 143 144 dX7_crowd_143 rfl ?_
        refine gx_aload_n X 144 145 0 dX7_crowd_144 rfl rfl rfl ?_
        refine gx_getR X 145 148 0 (by decide) rfl rfl fg_X7_95 dX7_crowd_145 rfl ?_
        refine gx_iload X 148 150 5 dX7_crowd_148 rfl rfl ?_
        refine gx_iload X 150 152 6 dX7_crowd_150 rfl rfl ?_
        refine gx_iadd X 152 153 dX7_crowd_152 rfl ?_
        refine gx_iaload X 153 154 27 (by decide) rfl dX7_crowd_153 rfl ?_
        refine gx_iastore X 154 155 4 (by decide) rfl dX7_crowd_154 rfl (fun m25 => ?_)
        refine gx_iinc X 155 158 6 (1) (fun x26 => [(8, .int x26), (0, .ref (adr 0)), (1, .int a1), (3, .int a3), (4, .int a4), (6, .int x15), (7, .int x17)]) dX7_crowd_155 rfl rfl ci_1 (by decide) (fun _ => rfl) (fun x26 => ?_)
        refine gx_goto X 158 127 dX7_crowd_158 rfl ?_
        refine gx_sub [1, 2, 3, 4, 5, 6, 0] rfl ?_
        exact hr_127 x26 m25
      refine gx_sub [] rfl ?_
      exact hk_121 m19
    refine gx_iload X 41 43 0 dX7_crowd_41 rfl rfl ?_
    exact gx_iret X 43 hr dX7_crowd_43
  refine gx_sub [] rfl ?_
  exact hk_21 m5
def fX7_film_L38 (a1 : Int32) (a2 : Int32) (a3 : Int32) (k_94 : Mm → Aa) (rec_38 : Int32 → Mm → Aa) (x10 : Int32) (m11 : Mm) : Aa := if (m11 0 1) ≤ x10 then (k_94 m11) else (mm_ck x10 10 (mm_lt (fun (x12 : Int32) (m13 : Mm) => mm_cl (fX7_asLane a2 x12 m13) (fun (x14 : Int32) (m15 : Mm) => mm_ck (((24 * a1) + a3) + x10) 96 (mm_lt (mm_wr m15 27 (((24 * a1) + a3) + x10).toNatClampNeg x14) (fun (m16 : Mm) => mm_lt (x10 + 1) (fun (x17 : Int32) => rec_38 x17 m16))))) (fun (k_84 : Int32 → Mm → Aa) => if 0 ≤ (m11 15 x10.toNatClampNeg) then (mm_ck x10 10 (k_84 (m11 15 x10.toNatClampNeg) m11)) else (k_84 1000 m11))))
def fX7_film (a1 : Int32) (a2 : Int32) (a3 : Int32) (μ : Mm) : Aa := mm_cl (fX7_isSheet a1 a2 μ) (fun (x1 : Int32) (m2 : Mm) => if x1 = 0 then (some ((-1), m2)) else (mm_cl (fX7_lacksRow a1 a2 a3 (m2 0 1) m2) (fun (x3 : Int32) (m4 : Mm) => mm_lt x3 (fun (x5 : Int32) => if 0 ≤ x5 then (mm_cl (fX7_goAll m4) (fun (x6 : Int32) (m7 : Mm) => mm_lt 0 (fun (x8 : Int32) => mm_lt (fun (m9 : Mm) => some (m9 0 1, m9)) (fun (k_94 : Mm → Aa) => mm_lk (fun (_ : Int32) (_ : Mm) => (none : Aa)) (fX7_film_L38 a1 a2 a3 k_94) mm_fu x8 m7)))) else (some (x5, m4))))))
abbrev rX7_film : Room := { frames := 6, cells := 0, slots := 0, locals := 134 }
set_option maxRecDepth 100000 in
set_option maxHeartbeats 8000000 in
theorem tX7_film {l : Launch} {D : va_G} {cA : Nat → ClassId} {adr : Nat → Nat} (hJ : mm_J adr NM) (a1 : Int32) (a2 : Int32) (a3 : Int32) (μ : Mm) : mm_Mi l D cA adr sM NM mm_SM yX7_film cX7_film 6 (some .int) rX7_film [.ref (adr 0), .int a1, .int a2, .int a3] μ (fX7_film a1 a2 a3 μ) := by
  refine mm_entryi hJ mm_okM (by decide) (Nat.le_of_ble_eq_true rfl) ⟨rfl, rfl⟩ (fun p e s m below meth c X hr => ?_)
  generalize ([.ref (adr 0), .int a1, .int a2, .int a3] : List Value).toArray = args at X ⊢
  refine gx_lv (lv' := [(0, .ref (adr 0)), (1, .int a1), (2, .int a2), (3, .int a3)]) rfl ?_
  unfold fX7_film
  refine gx_iload_n X 0 1 1 dX7_film_0 rfl rfl rfl ?_
  refine gx_iload_n X 1 2 2 dX7_film_1 rfl rfl rfl ?_
  refine gx_calliS X 2 5 (rest := []) (As := [.int a1, .int a2]) (tX7_isSheet hJ a1 a2 μ) wc_X7_isSheet wl_X7_320 wt_X7_isSheet wn_X7 hd_X7_isSheet ⟨Nat.le_of_ble_eq_true rfl, Nat.le_of_ble_eq_true rfl⟩ ⟨rfl, rfl⟩ rfl rfl (Nat.le_of_ble_eq_true rfl) dX7_film_2 rfl (fun x1 m2 => ?_)
  refine gx_if_ne X 5 10 8 dX7_film_5 rfl rfl ?_ ?_
  · refine gx_aload_n X 10 11 0 dX7_film_10 rfl rfl rfl ?_
    refine gx_iload_n X 11 12 1 dX7_film_11 rfl rfl rfl ?_
    refine gx_iload_n X 12 13 2 dX7_film_12 rfl rfl rfl ?_
    refine gx_iload_n X 13 14 3 dX7_film_13 rfl rfl rfl ?_
    refine gx_aload_n X 14 15 0 dX7_film_14 rfl rfl rfl ?_
    refine gx_getI X 15 18 0 (by decide) rfl rfl fg_X7_98 dX7_film_15 rfl ?_
    refine gx_calliV X 18 21 0 (rest := []) (As := [.int a1, .int a2, .int a3, .int (m2 0 1)]) (tX7_lacksRow hJ a1 a2 a3 (m2 0 1) m2) (by decide) rfl rfl wc_X7_lacksRow wl_X7_323 wi_X7_lacksRow ws_X7_lacksRow wn_X7 rfl hd_X7_lacksRow ⟨Nat.le_of_ble_eq_true rfl, Nat.le_of_ble_eq_true rfl⟩ ⟨rfl, rfl⟩ rfl rfl (Nat.le_of_ble_eq_true rfl) dX7_film_18 rfl (fun x3 m4 => ?_)
    refine gx_istore X 21 23 (fun x5 => [(4, .int x5), (0, .ref (adr 0)), (1, .int a1), (2, .int a2), (3, .int a3)]) dX7_film_21 rfl (by decide) (fun _ => rfl) (fun x5 => ?_)
    refine gx_iload X 23 25 0 dX7_film_23 rfl rfl ?_
    refine gx_if_ge X 25 31 28 dX7_film_25 rfl rfl ?_ ?_
    · refine gx_aload_n X 31 32 1 dX7_film_31 rfl rfl rfl ?_
      refine gx_callvV X 32 35 0 (rest := []) (As := []) (tX7_goAll hJ m4) (by decide) rfl rfl wc_X7_goAll wl_X7_245 wi_X7_goAll ws_X7_goAll wn_X7 rfl hd_X7_goAll ⟨Nat.le_of_ble_eq_true rfl, Nat.le_of_ble_eq_true rfl⟩ ⟨rfl, rfl⟩ rfl rfl (Nat.le_of_ble_eq_true rfl) dX7_film_32 rfl (fun x6 m7 => ?_)
      refine gx_iconst X 35 36 (0) dX7_film_35 rfl ci_0 ?_
      refine gx_istore X 36 38 (fun x8 => [(5, .int x8), (4, .int x5), (0, .ref (adr 0)), (1, .int a1), (2, .int a2), (3, .int a3)]) dX7_film_36 rfl (by decide) (fun _ => rfl) (fun x8 => ?_)
      refine gx_jn (fun (k : Mm → Aa) => ∀ (m9 : Mm), mm_G p l e rX7_film s m args below meth c 6 D cA adr sM NM (mm_Qi D cA adr sM NM) m9 94 [(0, .ref (adr 0))] [] (k m9)) ?_ (fun k_94 hk_94 => ?_)
      · intro m9
        refine gx_aload_n X 94 95 0 dX7_film_94 rfl rfl rfl ?_
        refine gx_getI X 95 98 0 (by decide) rfl rfl fg_X7_98 dX7_film_95 rfl ?_
        exact gx_iret X 98 hr dX7_film_98
      refine gx_sub [2, 3, 4, 5, 0] rfl ?_
      refine mm_lk_ind (fun (rec : Int32 → Mm → Aa) => ∀ (x10 : Int32) (m11 : Mm), mm_G p l e rX7_film s m args below meth c 6 D cA adr sM NM (mm_Qi D cA adr sM NM) m11 38 [(0, .ref (adr 0)), (1, .int a1), (2, .int a2), (3, .int a3), (5, .int x10)] [] (rec x10 m11)) (fun _ _ => gx_none) (fun rec_38 hr_38 x10 m11 => ?_) mm_fu x8 m7
      unfold fX7_film_L38
      refine gx_iload X 38 40 4 dX7_film_38 rfl rfl ?_
      refine gx_aload_n X 40 41 0 dX7_film_40 rfl rfl rfl ?_
      refine gx_getI X 41 44 0 (by decide) rfl rfl fg_X7_98 dX7_film_41 rfl ?_
      refine gx_icmp_ge X 44 94 47 dX7_film_44 rfl rfl ?_ ?_
      · refine gx_sub [0] rfl ?_
        exact hk_94 m11
      refine gx_aload_n X 47 48 0 dX7_film_47 rfl rfl rfl ?_
      refine gx_getR X 48 51 0 (by decide) rfl rfl fg_X7_95 dX7_film_48 rfl ?_
      refine gx_bipush X 51 53 (24) dX7_film_51 rfl cb_24 ?_
      refine gx_iload_n X 53 54 1 dX7_film_53 rfl rfl rfl ?_
      refine gx_imul X 54 55 dX7_film_54 rfl ?_
      refine gx_iload_n X 55 56 3 dX7_film_55 rfl rfl rfl ?_
      refine gx_iadd X 56 57 dX7_film_56 rfl ?_
      refine gx_iload X 57 59 4 dX7_film_57 rfl rfl ?_
      refine gx_iadd X 59 60 dX7_film_59 rfl ?_
      refine gx_iload_n X 60 61 2 dX7_film_60 rfl rfl rfl ?_
      refine gx_aload_n X 61 62 0 dX7_film_61 rfl rfl rfl ?_
      refine gx_getR X 62 65 0 (by decide) rfl rfl fg_X7_56 dX7_film_62 rfl ?_
      refine gx_iload X 65 67 4 dX7_film_65 rfl rfl ?_
      refine gx_iaload X 67 68 15 (by decide) rfl dX7_film_67 rfl ?_
      refine gx_jn (fun (k : Int32 → Mm → Aa) => ∀ (x12 : Int32) (m13 : Mm), mm_G p l e rX7_film s m args below meth c 6 D cA adr sM NM (mm_Qi D cA adr sM NM) m13 84 [(0, .ref (adr 0)), (1, .int a1), (2, .int a2), (3, .int a3), (5, .int x10)] [.int x12, .int a2, .int (((24 * a1) + a3) + x10), .ref (adr 27)] (k x12 m13)) ?_ (fun k_84 hk_84 => ?_)
      · intro x12 m13
        refine gx_calliS X 84 87 (rest := [.int (((24 * a1) + a3) + x10), .ref (adr 27)]) (As := [.int a2, .int x12]) (tX7_asLane hJ a2 x12 m13) wc_X7_asLane wl_X7_326 wt_X7_asLane wn_X7 hd_X7_asLane ⟨Nat.le_of_ble_eq_true rfl, Nat.le_of_ble_eq_true rfl⟩ ⟨rfl, rfl⟩ rfl rfl (Nat.le_of_ble_eq_true rfl) dX7_film_84 rfl (fun x14 m15 => ?_)
        refine gx_iastore X 87 88 27 (by decide) rfl dX7_film_87 rfl (fun m16 => ?_)
        refine gx_iinc X 88 91 4 (1) (fun x17 => [(5, .int x17), (0, .ref (adr 0)), (1, .int a1), (2, .int a2), (3, .int a3)]) dX7_film_88 rfl rfl ci_1 (by decide) (fun _ => rfl) (fun x17 => ?_)
        refine gx_goto X 91 38 dX7_film_91 rfl ?_
        refine gx_sub [1, 2, 3, 4, 0] rfl ?_
        exact hr_38 x17 m16
      refine gx_if_ge X 68 77 71 dX7_film_68 rfl rfl ?_ ?_
      · refine gx_aload_n X 77 78 0 dX7_film_77 rfl rfl rfl ?_
        refine gx_getR X 78 81 0 (by decide) rfl rfl fg_X7_56 dX7_film_78 rfl ?_
        refine gx_iload X 81 83 4 dX7_film_81 rfl rfl ?_
        refine gx_iaload X 83 84 15 (by decide) rfl dX7_film_83 rfl ?_
        exact hk_84 (m11 15 x10.toNatClampNeg) m11
      refine gx_sipush X 71 74 (1000) dX7_film_71 rfl cs_1000 ?_
      refine gx_goto X 74 84 dX7_film_74 rfl ?_
      exact hk_84 1000 m11
    refine gx_iload X 28 30 0 dX7_film_28 rfl rfl ?_
    exact gx_iret X 30 hr dX7_film_30
  refine gx_iconst X 8 9 (-1) dX7_film_8 rfl ci_m1 ?_
  exact gx_iret X 9 hr dX7_film_9
