def fX7_lastOver_L4 (k_44 : Int32 → Mm → Aa) (rec_4 : Int32 → Int32 → Mm → Aa) (x5 : Int32) (x6 : Int32) (m7 : Mm) : Aa := if (m7 0 1) ≤ x6 then (k_44 x5 m7) else (mm_ck x6 10 (mm_lt (fun (x8 : Int32) (m9 : Mm) => mm_cl (fX7_most x5 x8 m9) (fun (x10 : Int32) (m11 : Mm) => mm_lt x10 (fun (x12 : Int32) => mm_lt (x6 + 1) (fun (x13 : Int32) => rec_4 x12 x13 m11)))) (fun (k_34 : Int32 → Mm → Aa) => if 0 ≤ (m7 15 x6.toNatClampNeg) then (mm_ck x6 10 (k_34 (m7 15 x6.toNatClampNeg) m7)) else (k_34 1000 m7))))
def fX7_lastOver (μ : Mm) : Aa := mm_lt 0 (fun (x1 : Int32) => mm_lt 0 (fun (x2 : Int32) => mm_lt (fun (x3 : Int32) (m4 : Mm) => some (x3, m4)) (fun (k_44 : Int32 → Mm → Aa) => mm_lk (fun (_ : Int32) (_ : Int32) (_ : Mm) => (none : Aa)) (fX7_lastOver_L4 k_44) mm_fu x1 x2 μ)))
abbrev rX7_lastOver : Room := { frames := 1, cells := 0, slots := 0, locals := 21 }
set_option maxRecDepth 100000 in
set_option maxHeartbeats 8000000 in
theorem tX7_lastOver {l : Launch} {D : va_G} {cA : Nat → ClassId} {adr : Nat → Nat} (hJ : mm_J adr NM) (μ : Mm) : mm_Mi l D cA adr sM NM mm_SM yX7_lastOver cX7_lastOver 3 (some .int) rX7_lastOver [.ref (adr 0)] μ (fX7_lastOver μ) := by
  refine mm_entryi hJ mm_okM (by decide) (Nat.le_of_ble_eq_true rfl) ⟨rfl, rfl⟩ (fun p e s m below meth c X hr => ?_)
  generalize ([.ref (adr 0)] : List Value).toArray = args at X ⊢
  refine gx_lv (lv' := [(0, .ref (adr 0))]) rfl ?_
  unfold fX7_lastOver
  refine gx_iconst X 0 1 (0) dX7_lastOver_0 rfl ci_0 ?_
  refine gx_istore_n X 1 2 (fun x1 => [(1, .int x1), (0, .ref (adr 0))]) dX7_lastOver_1 rfl rfl (by decide) (fun _ => rfl) (fun x1 => ?_)
  refine gx_iconst X 2 3 (0) dX7_lastOver_2 rfl ci_0 ?_
  refine gx_istore_n X 3 4 (fun x2 => [(2, .int x2), (1, .int x1), (0, .ref (adr 0))]) dX7_lastOver_3 rfl rfl (by decide) (fun _ => rfl) (fun x2 => ?_)
  refine gx_jn (fun (k : Int32 → Mm → Aa) => ∀ (x3 : Int32) (m4 : Mm), mm_G p l e rX7_lastOver s m args below meth c 3 D cA adr sM NM (mm_Qi D cA adr sM NM) m4 44 [(1, .int x3)] [] (k x3 m4)) ?_ (fun k_44 hk_44 => ?_)
  · intro x3 m4
    refine gx_iload_n X 44 45 0 dX7_lastOver_44 rfl rfl rfl ?_
    exact gx_iret X 45 hr dX7_lastOver_45
  refine gx_sub [2, 1, 0] rfl ?_
  refine mm_lk_ind (fun (rec : Int32 → Int32 → Mm → Aa) => ∀ (x5 : Int32) (x6 : Int32) (m7 : Mm), mm_G p l e rX7_lastOver s m args below meth c 3 D cA adr sM NM (mm_Qi D cA adr sM NM) m7 4 [(0, .ref (adr 0)), (1, .int x5), (2, .int x6)] [] (rec x5 x6 m7)) (fun _ _ _ => gx_none) (fun rec_4 hr_4 x5 x6 m7 => ?_) mm_fu x1 x2 μ
  unfold fX7_lastOver_L4
  refine gx_iload_n X 4 5 2 dX7_lastOver_4 rfl rfl rfl ?_
  refine gx_aload_n X 5 6 0 dX7_lastOver_5 rfl rfl rfl ?_
  refine gx_getI X 6 9 0 (by decide) rfl rfl fg_X7_98 dX7_lastOver_6 rfl ?_
  refine gx_icmp_ge X 9 44 12 dX7_lastOver_9 rfl rfl ?_ ?_
  · refine gx_sub [1] rfl ?_
    exact hk_44 x5 m7
  refine gx_iload_n X 12 13 1 dX7_lastOver_12 rfl rfl rfl ?_
  refine gx_aload_n X 13 14 0 dX7_lastOver_13 rfl rfl rfl ?_
  refine gx_getR X 14 17 0 (by decide) rfl rfl fg_X7_56 dX7_lastOver_14 rfl ?_
  refine gx_iload_n X 17 18 2 dX7_lastOver_17 rfl rfl rfl ?_
  refine gx_iaload X 18 19 15 (by decide) rfl dX7_lastOver_18 rfl ?_
  refine gx_jn (fun (k : Int32 → Mm → Aa) => ∀ (x8 : Int32) (m9 : Mm), mm_G p l e rX7_lastOver s m args below meth c 3 D cA adr sM NM (mm_Qi D cA adr sM NM) m9 34 [(0, .ref (adr 0)), (2, .int x6)] [.int x8, .int x5] (k x8 m9)) ?_ (fun k_34 hk_34 => ?_)
  · intro x8 m9
    refine gx_calliS X 34 37 (rest := []) (As := [.int x5, .int x8]) (tX7_most hJ x5 x8 m9) wc_X7_most wl_X7_132 wt_X7_most wn_X7 hd_X7_most ⟨Nat.le_of_ble_eq_true rfl, Nat.le_of_ble_eq_true rfl⟩ ⟨rfl, rfl⟩ rfl rfl (Nat.le_of_ble_eq_true rfl) dX7_lastOver_34 rfl (fun x10 m11 => ?_)
    refine gx_istore_n X 37 38 (fun x12 => [(1, .int x12), (0, .ref (adr 0)), (2, .int x6)]) dX7_lastOver_37 rfl rfl (by decide) (fun _ => rfl) (fun x12 => ?_)
    refine gx_iinc X 38 41 2 (1) (fun x13 => [(2, .int x13), (1, .int x12), (0, .ref (adr 0))]) dX7_lastOver_38 rfl rfl ci_1 (by decide) (fun _ => rfl) (fun x13 => ?_)
    refine gx_goto X 41 4 dX7_lastOver_41 rfl ?_
    refine gx_sub [2, 1, 0] rfl ?_
    exact hr_4 x12 x13 m11
  refine gx_if_ge X 19 28 22 dX7_lastOver_19 rfl rfl ?_ ?_
  · refine gx_aload_n X 28 29 0 dX7_lastOver_28 rfl rfl rfl ?_
    refine gx_getR X 29 32 0 (by decide) rfl rfl fg_X7_56 dX7_lastOver_29 rfl ?_
    refine gx_iload_n X 32 33 2 dX7_lastOver_32 rfl rfl rfl ?_
    refine gx_iaload X 33 34 15 (by decide) rfl dX7_lastOver_33 rfl ?_
    refine gx_sub [0, 2] rfl ?_
    exact hk_34 (m7 15 x6.toNatClampNeg) m7
  refine gx_sipush X 22 25 (1000) dX7_lastOver_22 rfl cs_1000 ?_
  refine gx_goto X 25 34 dX7_lastOver_25 rfl ?_
  refine gx_sub [0, 2] rfl ?_
  exact hk_34 1000 m7
def fX7_fate (a1 : Int32) (a2 : Int32) (μ : Mm) : Aa := mm_cl (fX7_isPerson a1 μ) (fun (x1 : Int32) (m2 : Mm) => mm_lt (fun (m3 : Mm) => some ((-1), m3)) (fun (k_20 : Mm → Aa) => if x1 = 0 then (k_20 m2) else (mm_cl (fX7_in a2.toInt64 0 4 m2) (fun (x4 : Int32) (m5 : Mm) => if x4 = 0 then (k_20 m5) else (mm_cl (fX7_goAll m5) (fun (x6 : Int32) (m7 : Mm) => mm_lt (fun (x8 : Int32) (m9 : Mm) => some (x8, m9)) (fun (k_86 : Int32 → Mm → Aa) => if a2 = 0 then (mm_ck a1 10 (k_86 (m7 15 a1.toNatClampNeg) m7)) else (if a2 = 1 then (mm_ck a1 10 (k_86 (m7 9 a1.toNatClampNeg) m7)) else (if a2 = 2 then (mm_cl (fX7_wetOf a1 m7) (fun (x10 : Int32) (m11 : Mm) => k_86 x10 m11)) else (if a2 = 3 then (mm_ck a1 10 (k_86 (m7 13 a1.toNatClampNeg) m7)) else (mm_ck a1 10 (k_86 (m7 14 a1.toNatClampNeg) m7))))))))))))
abbrev rX7_fate : Room := { frames := 6, cells := 0, slots := 0, locals := 134 }
set_option maxRecDepth 100000 in
set_option maxHeartbeats 8000000 in
theorem tX7_fate {l : Launch} {D : va_G} {cA : Nat → ClassId} {adr : Nat → Nat} (hJ : mm_J adr NM) (a1 : Int32) (a2 : Int32) (μ : Mm) : mm_Mi l D cA adr sM NM mm_SM yX7_fate cX7_fate 3 (some .int) rX7_fate [.ref (adr 0), .int a1, .int a2] μ (fX7_fate a1 a2 μ) := by
  refine mm_entryi hJ mm_okM (by decide) (Nat.le_of_ble_eq_true rfl) ⟨rfl, rfl⟩ (fun p e s m below meth c X hr => ?_)
  generalize ([.ref (adr 0), .int a1, .int a2] : List Value).toArray = args at X ⊢
  refine gx_lv (lv' := [(0, .ref (adr 0)), (1, .int a1), (2, .int a2)]) rfl ?_
  unfold fX7_fate
  refine gx_aload_n X 0 1 0 dX7_fate_0 rfl rfl rfl ?_
  refine gx_iload_n X 1 2 1 dX7_fate_1 rfl rfl rfl ?_
  refine gx_calliV X 2 5 0 (rest := []) (As := [.int a1]) (tX7_isPerson hJ a1 μ) (by decide) rfl rfl wc_X7_isPerson wl_X7_136 wi_X7_isPerson ws_X7_isPerson wn_X7 rfl hd_X7_isPerson ⟨Nat.le_of_ble_eq_true rfl, Nat.le_of_ble_eq_true rfl⟩ ⟨rfl, rfl⟩ rfl rfl (Nat.le_of_ble_eq_true rfl) dX7_fate_2 rfl (fun x1 m2 => ?_)
  refine gx_jn (fun (k : Mm → Aa) => ∀ (m3 : Mm), mm_G p l e rX7_fate s m args below meth c 3 D cA adr sM NM (mm_Qi D cA adr sM NM) m3 20 [] [] (k m3)) ?_ (fun k_20 hk_20 => ?_)
  · intro m3
    refine gx_iconst X 20 21 (-1) dX7_fate_20 rfl ci_m1 ?_
    exact gx_iret X 21 hr dX7_fate_21
  refine gx_if_eq X 5 20 8 dX7_fate_5 rfl rfl ?_ ?_
  · refine gx_sub [] rfl ?_
    exact hk_20 m2
  refine gx_iload_n X 8 9 2 dX7_fate_8 rfl rfl rfl ?_
  refine gx_i2l X 9 10 dX7_fate_9 rfl ?_
  refine gx_lconst X 10 11 (0) dX7_fate_10 rfl cl_0 ?_
  refine gx_ldc2_w X 11 14 wk_X7_243 dX7_fate_11 rfl ?_
  refine gx_calliS X 14 17 (rest := []) (As := [.long a2.toInt64, .long 0, .long 4]) (tX7_in hJ a2.toInt64 0 4 m2) wc_X7_in wl_X7_101 wt_X7_in wn_X7 hd_X7_in ⟨Nat.le_of_ble_eq_true rfl, Nat.le_of_ble_eq_true rfl⟩ ⟨rfl, rfl⟩ rfl rfl (Nat.le_of_ble_eq_true rfl) dX7_fate_14 rfl (fun x4 m5 => ?_)
  refine gx_if_ne X 17 22 20 dX7_fate_17 rfl rfl ?_ ?_
  · refine gx_aload_n X 22 23 0 dX7_fate_22 rfl rfl rfl ?_
    refine gx_callvV X 23 26 0 (rest := []) (As := []) (tX7_goAll hJ m5) (by decide) rfl rfl wc_X7_goAll wl_X7_245 wi_X7_goAll ws_X7_goAll wn_X7 rfl hd_X7_goAll ⟨Nat.le_of_ble_eq_true rfl, Nat.le_of_ble_eq_true rfl⟩ ⟨rfl, rfl⟩ rfl rfl (Nat.le_of_ble_eq_true rfl) dX7_fate_23 rfl (fun x6 m7 => ?_)
    refine gx_iload_n X 26 27 2 dX7_fate_26 rfl rfl rfl ?_
    refine gx_jn (fun (k : Int32 → Mm → Aa) => ∀ (x8 : Int32) (m9 : Mm), mm_G p l e rX7_fate s m args below meth c 3 D cA adr sM NM (mm_Qi D cA adr sM NM) m9 86 [] [.int x8] (k x8 m9)) ?_ (fun k_86 hk_86 => ?_)
    · intro x8 m9
      exact gx_iret X 86 hr dX7_fate_86
    refine gx_if_ne X 27 39 30 dX7_fate_27 rfl rfl ?_ ?_
    · refine gx_iload_n X 39 40 2 dX7_fate_39 rfl rfl rfl ?_
      refine gx_iconst X 40 41 (1) dX7_fate_40 rfl ci_1 ?_
      refine gx_icmp_ne X 41 53 44 dX7_fate_41 rfl rfl ?_ ?_
      · refine gx_iload_n X 53 54 2 dX7_fate_53 rfl rfl rfl ?_
        refine gx_iconst X 54 55 (2) dX7_fate_54 rfl ci_2 ?_
        refine gx_icmp_ne X 55 66 58 dX7_fate_55 rfl rfl ?_ ?_
        · refine gx_iload_n X 66 67 2 dX7_fate_66 rfl rfl rfl ?_
          refine gx_iconst X 67 68 (3) dX7_fate_67 rfl ci_3 ?_
          refine gx_icmp_ne X 68 80 71 dX7_fate_68 rfl rfl ?_ ?_
          · refine gx_aload_n X 80 81 0 dX7_fate_80 rfl rfl rfl ?_
            refine gx_getR X 81 84 0 (by decide) rfl rfl fg_X7_53 dX7_fate_81 rfl ?_
            refine gx_iload_n X 84 85 1 dX7_fate_84 rfl rfl rfl ?_
            refine gx_iaload X 85 86 14 (by decide) rfl dX7_fate_85 rfl ?_
            refine gx_sub [] rfl ?_
            exact hk_86 (m7 14 a1.toNatClampNeg) m7
          refine gx_aload_n X 71 72 0 dX7_fate_71 rfl rfl rfl ?_
          refine gx_getR X 72 75 0 (by decide) rfl rfl fg_X7_50 dX7_fate_72 rfl ?_
          refine gx_iload_n X 75 76 1 dX7_fate_75 rfl rfl rfl ?_
          refine gx_iaload X 76 77 13 (by decide) rfl dX7_fate_76 rfl ?_
          refine gx_goto X 77 86 dX7_fate_77 rfl ?_
          refine gx_sub [] rfl ?_
          exact hk_86 (m7 13 a1.toNatClampNeg) m7
        refine gx_aload_n X 58 59 0 dX7_fate_58 rfl rfl rfl ?_
        refine gx_iload_n X 59 60 1 dX7_fate_59 rfl rfl rfl ?_
        refine gx_calliV X 60 63 0 (rest := []) (As := [.int a1]) (tX7_wetOf hJ a1 m7) (by decide) rfl rfl wc_X7_wetOf wl_X7_248 wi_X7_wetOf ws_X7_wetOf wn_X7 rfl hd_X7_wetOf ⟨Nat.le_of_ble_eq_true rfl, Nat.le_of_ble_eq_true rfl⟩ ⟨rfl, rfl⟩ rfl rfl (Nat.le_of_ble_eq_true rfl) dX7_fate_60 rfl (fun x10 m11 => ?_)
        refine gx_goto X 63 86 dX7_fate_63 rfl ?_
        refine gx_sub [] rfl ?_
        exact hk_86 x10 m11
      refine gx_aload_n X 44 45 0 dX7_fate_44 rfl rfl rfl ?_
      refine gx_getR X 45 48 0 (by decide) rfl rfl fg_X7_38 dX7_fate_45 rfl ?_
      refine gx_iload_n X 48 49 1 dX7_fate_48 rfl rfl rfl ?_
      refine gx_iaload X 49 50 9 (by decide) rfl dX7_fate_49 rfl ?_
      refine gx_goto X 50 86 dX7_fate_50 rfl ?_
      refine gx_sub [] rfl ?_
      exact hk_86 (m7 9 a1.toNatClampNeg) m7
    refine gx_aload_n X 30 31 0 dX7_fate_30 rfl rfl rfl ?_
    refine gx_getR X 31 34 0 (by decide) rfl rfl fg_X7_56 dX7_fate_31 rfl ?_
    refine gx_iload_n X 34 35 1 dX7_fate_34 rfl rfl rfl ?_
    refine gx_iaload X 35 36 15 (by decide) rfl dX7_fate_35 rfl ?_
    refine gx_goto X 36 86 dX7_fate_36 rfl ?_
    refine gx_sub [] rfl ?_
    exact hk_86 (m7 15 a1.toNatClampNeg) m7
  refine gx_sub [] rfl ?_
  exact hk_20 m5
def fX7_at_L65 (a2 : Int32) (k_218 : Int32 → Mm → Aa) (rec_65 : Int32 → Int32 → Mm → Aa) (x17 : Int32) (x18 : Int32) (m19 : Mm) : Aa := if (m19 0 1) ≤ x18 then (k_218 x17 m19) else (mm_ck x18 10 (mm_lt (fun (x20 : Int32) (m21 : Mm) => mm_lt x20 (fun (x22 : Int32) => mm_lt (fun (x23 : Int32) (m24 : Mm) => mm_lt x23 (fun (x25 : Int32) => mm_lt (fun (x26 : Int32) (m27 : Mm) => mm_lt (x17 ||| x26) (fun (x28 : Int32) => mm_lt (x18 + 1) (fun (x29 : Int32) => rec_65 x28 x29 m27))) (fun (k_210 : Int32 → Mm → Aa) => if x25 = 0 then (k_210 0 m24) else (k_210 (1 <<< (x18 &&& 31)) m24)))) (fun (k_194 : Int32 → Mm → Aa) => if a2 = 1 then (mm_lt (fun (m32 : Mm) => k_194 0 m32) (fun (k_116 : Mm → Aa) => if x22 = 0 then (k_116 m21) else (mm_ck x18 10 (if (m21 6 x18.toNatClampNeg) = 0 then (k_194 1 m21) else (k_116 m21))))) else (if a2 = 2 then (mm_lt (fun (m31 : Mm) => k_194 0 m31) (fun (k_145 : Mm → Aa) => if x22 = 0 then (k_145 m21) else (mm_ck x18 10 (if (m21 6 x18.toNatClampNeg) = 1 then (k_194 1 m21) else (k_145 m21))))) else (if a2 = 3 then (mm_lt (fun (m30 : Mm) => k_194 0 m30) (fun (k_174 : Mm → Aa) => if x22 = 0 then (k_174 m21) else (mm_ck x18 10 (if (m21 8 x18.toNatClampNeg) = 1 then (k_194 1 m21) else (k_174 m21))))) else (mm_ck x18 10 (if (m21 5 x18.toNatClampNeg) = 4 then (k_194 1 m21) else (k_194 0 m21)))))))) (fun (k_90 : Int32 → Mm → Aa) => if (m19 5 x18.toNatClampNeg) = 2 then (k_90 1 m19) else (k_90 0 m19))))
def fX7_at (a1 : Int32) (a2 : Int32) (μ : Mm) : Aa := mm_cl (fX7_in a1.toInt64 0 999 μ) (fun (x1 : Int32) (m2 : Mm) => mm_lt (fun (m3 : Mm) => some ((-1), m3)) (fun (k_24 : Mm → Aa) => if x1 = 0 then (k_24 m2) else (mm_cl (fX7_in a2.toInt64 0 5 m2) (fun (x4 : Int32) (m5 : Mm) => if x4 = 0 then (k_24 m5) else (mm_cl (fX7_begin m5) (fun (x6 : Int32) (m7 : Mm) => mm_cl (fX7_goTo a1 m7) (fun (x8 : Int32) (m9 : Mm) => mm_lt (fun (m10 : Mm) => mm_lt (fun (x11 : Int32) (m12 : Mm) => some (x11, m12)) (fun (k_59 : Int32 → Mm → Aa) => if a2 = 0 then (k_59 (m10 0 23) m10) else (k_59 (m10 0 24) m10))) (fun (k_44 : Mm → Aa) => if a2 = 0 then (k_44 m9) else (if a2 = 4 then (k_44 m9) else (mm_lt 0 (fun (x13 : Int32) => mm_lt 0 (fun (x14 : Int32) => mm_lt (fun (x15 : Int32) (m16 : Mm) => some (x15, m16)) (fun (k_218 : Int32 → Mm → Aa) => mm_lk (fun (_ : Int32) (_ : Int32) (_ : Mm) => (none : Aa)) (fX7_at_L65 a2 k_218) mm_fu x13 x14 m9)))))))))))))
abbrev rX7_at : Room := { frames := 5, cells := 0, slots := 0, locals := 114 }
set_option maxRecDepth 100000 in
set_option maxHeartbeats 8000000 in
theorem tX7_at {l : Launch} {D : va_G} {cA : Nat → ClassId} {adr : Nat → Nat} (hJ : mm_J adr NM) (a1 : Int32) (a2 : Int32) (μ : Mm) : mm_Mi l D cA adr sM NM mm_SM yX7_at cX7_at 7 (some .int) rX7_at [.ref (adr 0), .int a1, .int a2] μ (fX7_at a1 a2 μ) := by
  refine mm_entryi hJ mm_okM (by decide) (Nat.le_of_ble_eq_true rfl) ⟨rfl, rfl⟩ (fun p e s m below meth c X hr => ?_)
  generalize ([.ref (adr 0), .int a1, .int a2] : List Value).toArray = args at X ⊢
  refine gx_lv (lv' := [(0, .ref (adr 0)), (1, .int a1), (2, .int a2)]) rfl ?_
  unfold fX7_at
  refine gx_iload_n X 0 1 1 dX7_at_0 rfl rfl rfl ?_
  refine gx_i2l X 1 2 dX7_at_1 rfl ?_
  refine gx_lconst X 2 3 (0) dX7_at_2 rfl cl_0 ?_
  refine gx_ldc2_w X 3 6 wk_X7_251 dX7_at_3 rfl ?_
  refine gx_calliS X 6 9 (rest := []) (As := [.long a1.toInt64, .long 0, .long 999]) (tX7_in hJ a1.toInt64 0 999 μ) wc_X7_in wl_X7_101 wt_X7_in wn_X7 hd_X7_in ⟨Nat.le_of_ble_eq_true rfl, Nat.le_of_ble_eq_true rfl⟩ ⟨rfl, rfl⟩ rfl rfl (Nat.le_of_ble_eq_true rfl) dX7_at_6 rfl (fun x1 m2 => ?_)
  refine gx_jn (fun (k : Mm → Aa) => ∀ (m3 : Mm), mm_G p l e rX7_at s m args below meth c 7 D cA adr sM NM (mm_Qi D cA adr sM NM) m3 24 [] [] (k m3)) ?_ (fun k_24 hk_24 => ?_)
  · intro m3
    refine gx_iconst X 24 25 (-1) dX7_at_24 rfl ci_m1 ?_
    exact gx_iret X 25 hr dX7_at_25
  refine gx_if_eq X 9 24 12 dX7_at_9 rfl rfl ?_ ?_
  · refine gx_sub [] rfl ?_
    exact hk_24 m2
  refine gx_iload_n X 12 13 2 dX7_at_12 rfl rfl rfl ?_
  refine gx_i2l X 13 14 dX7_at_13 rfl ?_
  refine gx_lconst X 14 15 (0) dX7_at_14 rfl cl_0 ?_
  refine gx_ldc2_w X 15 18 wk_X7_107 dX7_at_15 rfl ?_
  refine gx_calliS X 18 21 (rest := []) (As := [.long a2.toInt64, .long 0, .long 5]) (tX7_in hJ a2.toInt64 0 5 m2) wc_X7_in wl_X7_101 wt_X7_in wn_X7 hd_X7_in ⟨Nat.le_of_ble_eq_true rfl, Nat.le_of_ble_eq_true rfl⟩ ⟨rfl, rfl⟩ rfl rfl (Nat.le_of_ble_eq_true rfl) dX7_at_18 rfl (fun x4 m5 => ?_)
  refine gx_if_ne X 21 26 24 dX7_at_21 rfl rfl ?_ ?_
  · refine gx_aload_n X 26 27 0 dX7_at_26 rfl rfl rfl ?_
    refine gx_callvV X 27 30 0 (rest := []) (As := []) (tX7_begin hJ m5) (by decide) rfl rfl wc_X7_begin wl_X7_237 wi_X7_begin ws_X7_begin wn_X7 rfl hd_X7_begin ⟨Nat.le_of_ble_eq_true rfl, Nat.le_of_ble_eq_true rfl⟩ ⟨rfl, rfl⟩ rfl rfl (Nat.le_of_ble_eq_true rfl) dX7_at_27 rfl (fun x6 m7 => ?_)
    refine gx_aload_n X 30 31 0 dX7_at_30 rfl rfl rfl ?_
    refine gx_iload_n X 31 32 1 dX7_at_31 rfl rfl rfl ?_
    refine gx_callvV X 32 35 0 (rest := []) (As := [.int a1]) (tX7_goTo hJ a1 m7) (by decide) rfl rfl wc_X7_goTo wl_X7_240 wi_X7_goTo ws_X7_goTo wn_X7 rfl hd_X7_goTo ⟨Nat.le_of_ble_eq_true rfl, Nat.le_of_ble_eq_true rfl⟩ ⟨rfl, rfl⟩ rfl rfl (Nat.le_of_ble_eq_true rfl) dX7_at_32 rfl (fun x8 m9 => ?_)
    refine gx_iload_n X 35 36 2 dX7_at_35 rfl rfl rfl ?_
    refine gx_jn (fun (k : Mm → Aa) => ∀ (m10 : Mm), mm_G p l e rX7_at s m args below meth c 7 D cA adr sM NM (mm_Qi D cA adr sM NM) m10 44 [(0, .ref (adr 0)), (2, .int a2)] [] (k m10)) ?_ (fun k_44 hk_44 => ?_)
    · intro m10
      refine gx_iload_n X 44 45 1 dX7_at_44 rfl rfl rfl ?_
      refine gx_jn (fun (k : Int32 → Mm → Aa) => ∀ (x11 : Int32) (m12 : Mm), mm_G p l e rX7_at s m args below meth c 7 D cA adr sM NM (mm_Qi D cA adr sM NM) m12 59 [] [.int x11] (k x11 m12)) ?_ (fun k_59 hk_59 => ?_)
      · intro x11 m12
        exact gx_iret X 59 hr dX7_at_59
      refine gx_if_ne X 45 55 48 dX7_at_45 rfl rfl ?_ ?_
      · refine gx_aload_n X 55 56 0 dX7_at_55 rfl rfl rfl ?_
        refine gx_getI X 56 59 0 (by decide) rfl rfl fg_X7_194 dX7_at_56 rfl ?_
        refine gx_sub [] rfl ?_
        exact hk_59 (m10 0 24) m10
      refine gx_aload_n X 48 49 0 dX7_at_48 rfl rfl rfl ?_
      refine gx_getI X 49 52 0 (by decide) rfl rfl fg_X7_191 dX7_at_49 rfl ?_
      refine gx_goto X 52 59 dX7_at_52 rfl ?_
      refine gx_sub [] rfl ?_
      exact hk_59 (m10 0 23) m10
    refine gx_if_eq X 36 44 39 dX7_at_36 rfl rfl ?_ ?_
    · refine gx_sub [0, 2] rfl ?_
      exact hk_44 m9
    refine gx_iload_n X 39 40 2 dX7_at_39 rfl rfl rfl ?_
    refine gx_iconst X 40 41 (4) dX7_at_40 rfl ci_4 ?_
    refine gx_icmp_ne X 41 60 44 dX7_at_41 rfl rfl ?_ ?_
    · refine gx_iconst X 60 61 (0) dX7_at_60 rfl ci_0 ?_
      refine gx_istore_n X 61 62 (fun x13 => [(3, .int x13), (0, .ref (adr 0)), (1, .int a1), (2, .int a2)]) dX7_at_61 rfl rfl (by decide) (fun _ => rfl) (fun x13 => ?_)
      refine gx_iconst X 62 63 (0) dX7_at_62 rfl ci_0 ?_
      refine gx_istore X 63 65 (fun x14 => [(4, .int x14), (3, .int x13), (0, .ref (adr 0)), (1, .int a1), (2, .int a2)]) dX7_at_63 rfl (by decide) (fun _ => rfl) (fun x14 => ?_)
      refine gx_jn (fun (k : Int32 → Mm → Aa) => ∀ (x15 : Int32) (m16 : Mm), mm_G p l e rX7_at s m args below meth c 7 D cA adr sM NM (mm_Qi D cA adr sM NM) m16 218 [(3, .int x15)] [] (k x15 m16)) ?_ (fun k_218 hk_218 => ?_)
      · intro x15 m16
        refine gx_iload_n X 218 219 0 dX7_at_218 rfl rfl rfl ?_
        exact gx_iret X 219 hr dX7_at_219
      refine gx_sub [2, 4, 1, 0] rfl ?_
      refine mm_lk_ind (fun (rec : Int32 → Int32 → Mm → Aa) => ∀ (x17 : Int32) (x18 : Int32) (m19 : Mm), mm_G p l e rX7_at s m args below meth c 7 D cA adr sM NM (mm_Qi D cA adr sM NM) m19 65 [(0, .ref (adr 0)), (2, .int a2), (3, .int x17), (4, .int x18)] [] (rec x17 x18 m19)) (fun _ _ _ => gx_none) (fun rec_65 hr_65 x17 x18 m19 => ?_) mm_fu x13 x14 m9
      unfold fX7_at_L65
      refine gx_iload X 65 67 3 dX7_at_65 rfl rfl ?_
      refine gx_aload_n X 67 68 0 dX7_at_67 rfl rfl rfl ?_
      refine gx_getI X 68 71 0 (by decide) rfl rfl fg_X7_98 dX7_at_68 rfl ?_
      refine gx_icmp_ge X 71 218 74 dX7_at_71 rfl rfl ?_ ?_
      · refine gx_sub [2] rfl ?_
        exact hk_218 x17 m19
      refine gx_aload_n X 74 75 0 dX7_at_74 rfl rfl rfl ?_
      refine gx_getR X 75 78 0 (by decide) rfl rfl fg_X7_26 dX7_at_75 rfl ?_
      refine gx_iload X 78 80 3 dX7_at_78 rfl rfl ?_
      refine gx_iaload X 80 81 5 (by decide) rfl dX7_at_80 rfl ?_
      refine gx_iconst X 81 82 (2) dX7_at_81 rfl ci_2 ?_
      refine gx_jn (fun (k : Int32 → Mm → Aa) => ∀ (x20 : Int32) (m21 : Mm), mm_G p l e rX7_at s m args below meth c 7 D cA adr sM NM (mm_Qi D cA adr sM NM) m21 90 [(0, .ref (adr 0)), (2, .int a2), (3, .int x17), (4, .int x18)] [.int x20] (k x20 m21)) ?_ (fun k_90 hk_90 => ?_)
      · intro x20 m21
        refine gx_istore X 90 92 (fun x22 => [(5, .int x22), (0, .ref (adr 0)), (2, .int a2), (3, .int x17), (4, .int x18)]) dX7_at_90 rfl (by decide) (fun _ => rfl) (fun x22 => ?_)
        refine gx_iload_n X 92 93 2 dX7_at_92 rfl rfl rfl ?_
        refine gx_iconst X 93 94 (1) dX7_at_93 rfl ci_1 ?_
        refine gx_jn (fun (k : Int32 → Mm → Aa) => ∀ (x23 : Int32) (m24 : Mm), mm_G p l e rX7_at s m args below meth c 7 D cA adr sM NM (mm_Qi D cA adr sM NM) m24 194 [(0, .ref (adr 0)), (2, .int a2), (3, .int x17), (4, .int x18)] [.int x23] (k x23 m24)) ?_ (fun k_194 hk_194 => ?_)
        · intro x23 m24
          refine gx_istore X 194 196 (fun x25 => [(6, .int x25), (0, .ref (adr 0)), (2, .int a2), (3, .int x17), (4, .int x18)]) dX7_at_194 rfl (by decide) (fun _ => rfl) (fun x25 => ?_)
          refine gx_iload_n X 196 197 3 dX7_at_196 rfl rfl rfl ?_
          refine gx_iload X 197 199 0 dX7_at_197 rfl rfl ?_
          refine gx_jn (fun (k : Int32 → Mm → Aa) => ∀ (x26 : Int32) (m27 : Mm), mm_G p l e rX7_at s m args below meth c 7 D cA adr sM NM (mm_Qi D cA adr sM NM) m27 210 [(0, .ref (adr 0)), (2, .int a2), (4, .int x18)] [.int x26, .int x17] (k x26 m27)) ?_ (fun k_210 hk_210 => ?_)
          · intro x26 m27
            refine gx_ior X 210 211 dX7_at_210 rfl ?_
            refine gx_istore_n X 211 212 (fun x28 => [(3, .int x28), (0, .ref (adr 0)), (2, .int a2), (4, .int x18)]) dX7_at_211 rfl rfl (by decide) (fun _ => rfl) (fun x28 => ?_)
            refine gx_iinc X 212 215 3 (1) (fun x29 => [(4, .int x29), (3, .int x28), (0, .ref (adr 0)), (2, .int a2)]) dX7_at_212 rfl rfl ci_1 (by decide) (fun _ => rfl) (fun x29 => ?_)
            refine gx_goto X 215 65 dX7_at_215 rfl ?_
            refine gx_sub [2, 3, 1, 0] rfl ?_
            exact hr_65 x28 x29 m27
          refine gx_if_eq X 199 209 202 dX7_at_199 rfl rfl ?_ ?_
          · refine gx_iconst X 209 210 (0) dX7_at_209 rfl ci_0 ?_
            refine gx_sub [1, 2, 4] rfl ?_
            exact hk_210 0 m24
          refine gx_iconst X 202 203 (1) dX7_at_202 rfl ci_1 ?_
          refine gx_iload X 203 205 4 dX7_at_203 rfl rfl ?_
          refine gx_ishl X 205 206 dX7_at_205 rfl ?_
          refine gx_goto X 206 210 dX7_at_206 rfl ?_
          refine gx_sub [1, 2, 4] rfl ?_
          exact hk_210 (1 <<< (x18 &&& 31)) m24
        refine gx_icmp_ne X 94 120 97 dX7_at_94 rfl rfl ?_ ?_
        · refine gx_iload_n X 120 121 2 dX7_at_120 rfl rfl rfl ?_
          refine gx_iconst X 121 122 (2) dX7_at_121 rfl ci_2 ?_
          refine gx_icmp_ne X 122 149 125 dX7_at_122 rfl rfl ?_ ?_
          · refine gx_iload_n X 149 150 2 dX7_at_149 rfl rfl rfl ?_
            refine gx_iconst X 150 151 (3) dX7_at_150 rfl ci_3 ?_
            refine gx_icmp_ne X 151 178 154 dX7_at_151 rfl rfl ?_ ?_
            · refine gx_aload_n X 178 179 1 dX7_at_178 rfl rfl rfl ?_
              refine gx_getR X 179 182 0 (by decide) rfl rfl fg_X7_26 dX7_at_179 rfl ?_
              refine gx_iload X 182 184 4 dX7_at_182 rfl rfl ?_
              refine gx_iaload X 184 185 5 (by decide) rfl dX7_at_184 rfl ?_
              refine gx_iconst X 185 186 (4) dX7_at_185 rfl ci_4 ?_
              refine gx_icmp_ne X 186 193 189 dX7_at_186 rfl rfl ?_ ?_
              · refine gx_iconst X 193 194 (0) dX7_at_193 rfl ci_0 ?_
                refine gx_sub [1, 2, 3, 4] rfl ?_
                exact hk_194 0 m21
              refine gx_iconst X 189 190 (1) dX7_at_189 rfl ci_1 ?_
              refine gx_goto X 190 194 dX7_at_190 rfl ?_
              refine gx_sub [1, 2, 3, 4] rfl ?_
              exact hk_194 1 m21
            refine gx_iload X 154 156 0 dX7_at_154 rfl rfl ?_
            refine gx_jn (fun (k : Mm → Aa) => ∀ (m30 : Mm), mm_G p l e rX7_at s m args below meth c 7 D cA adr sM NM (mm_Qi D cA adr sM NM) m30 174 [(0, .ref (adr 0)), (2, .int a2), (3, .int x17), (4, .int x18)] [] (k m30)) ?_ (fun k_174 hk_174 => ?_)
            · intro m30
              refine gx_iconst X 174 175 (0) dX7_at_174 rfl ci_0 ?_
              refine gx_goto X 175 194 dX7_at_175 rfl ?_
              exact hk_194 0 m30
            refine gx_if_eq X 156 174 159 dX7_at_156 rfl rfl ?_ ?_
            · refine gx_sub [1, 2, 3, 4] rfl ?_
              exact hk_174 m21
            refine gx_aload_n X 159 160 1 dX7_at_159 rfl rfl rfl ?_
            refine gx_getR X 160 163 0 (by decide) rfl rfl fg_X7_35 dX7_at_160 rfl ?_
            refine gx_iload X 163 165 4 dX7_at_163 rfl rfl ?_
            refine gx_iaload X 165 166 8 (by decide) rfl dX7_at_165 rfl ?_
            refine gx_iconst X 166 167 (1) dX7_at_166 rfl ci_1 ?_
            refine gx_icmp_ne X 167 174 170 dX7_at_167 rfl rfl ?_ ?_
            · refine gx_sub [1, 2, 3, 4] rfl ?_
              exact hk_174 m21
            refine gx_iconst X 170 171 (1) dX7_at_170 rfl ci_1 ?_
            refine gx_goto X 171 194 dX7_at_171 rfl ?_
            refine gx_sub [1, 2, 3, 4] rfl ?_
            exact hk_194 1 m21
          refine gx_iload X 125 127 0 dX7_at_125 rfl rfl ?_
          refine gx_jn (fun (k : Mm → Aa) => ∀ (m31 : Mm), mm_G p l e rX7_at s m args below meth c 7 D cA adr sM NM (mm_Qi D cA adr sM NM) m31 145 [(0, .ref (adr 0)), (2, .int a2), (3, .int x17), (4, .int x18)] [] (k m31)) ?_ (fun k_145 hk_145 => ?_)
          · intro m31
            refine gx_iconst X 145 146 (0) dX7_at_145 rfl ci_0 ?_
            refine gx_goto X 146 194 dX7_at_146 rfl ?_
            exact hk_194 0 m31
          refine gx_if_eq X 127 145 130 dX7_at_127 rfl rfl ?_ ?_
          · refine gx_sub [1, 2, 3, 4] rfl ?_
            exact hk_145 m21
          refine gx_aload_n X 130 131 1 dX7_at_130 rfl rfl rfl ?_
          refine gx_getR X 131 134 0 (by decide) rfl rfl fg_X7_29 dX7_at_131 rfl ?_
          refine gx_iload X 134 136 4 dX7_at_134 rfl rfl ?_
          refine gx_iaload X 136 137 6 (by decide) rfl dX7_at_136 rfl ?_
          refine gx_iconst X 137 138 (1) dX7_at_137 rfl ci_1 ?_
          refine gx_icmp_ne X 138 145 141 dX7_at_138 rfl rfl ?_ ?_
          · refine gx_sub [1, 2, 3, 4] rfl ?_
            exact hk_145 m21
          refine gx_iconst X 141 142 (1) dX7_at_141 rfl ci_1 ?_
          refine gx_goto X 142 194 dX7_at_142 rfl ?_
          refine gx_sub [1, 2, 3, 4] rfl ?_
          exact hk_194 1 m21
        refine gx_iload X 97 99 0 dX7_at_97 rfl rfl ?_
        refine gx_jn (fun (k : Mm → Aa) => ∀ (m32 : Mm), mm_G p l e rX7_at s m args below meth c 7 D cA adr sM NM (mm_Qi D cA adr sM NM) m32 116 [(0, .ref (adr 0)), (2, .int a2), (3, .int x17), (4, .int x18)] [] (k m32)) ?_ (fun k_116 hk_116 => ?_)
        · intro m32
          refine gx_iconst X 116 117 (0) dX7_at_116 rfl ci_0 ?_
          refine gx_goto X 117 194 dX7_at_117 rfl ?_
          exact hk_194 0 m32
        refine gx_if_eq X 99 116 102 dX7_at_99 rfl rfl ?_ ?_
        · refine gx_sub [1, 2, 3, 4] rfl ?_
          exact hk_116 m21
        refine gx_aload_n X 102 103 1 dX7_at_102 rfl rfl rfl ?_
        refine gx_getR X 103 106 0 (by decide) rfl rfl fg_X7_29 dX7_at_103 rfl ?_
        refine gx_iload X 106 108 4 dX7_at_106 rfl rfl ?_
        refine gx_iaload X 108 109 6 (by decide) rfl dX7_at_108 rfl ?_
        refine gx_if_ne X 109 116 112 dX7_at_109 rfl rfl ?_ ?_
        · refine gx_sub [1, 2, 3, 4] rfl ?_
          exact hk_116 m21
        refine gx_iconst X 112 113 (1) dX7_at_112 rfl ci_1 ?_
        refine gx_goto X 113 194 dX7_at_113 rfl ?_
        refine gx_sub [1, 2, 3, 4] rfl ?_
        exact hk_194 1 m21
      refine gx_icmp_ne X 82 89 85 dX7_at_82 rfl rfl ?_ ?_
      · refine gx_iconst X 89 90 (0) dX7_at_89 rfl ci_0 ?_
        exact hk_90 0 m19
      refine gx_iconst X 85 86 (1) dX7_at_85 rfl ci_1 ?_
      refine gx_goto X 86 90 dX7_at_86 rfl ?_
      exact hk_90 1 m19
    refine gx_sub [0, 2] rfl ?_
    exact hk_44 m9
  refine gx_sub [] rfl ?_
  exact hk_24 m5
def fX7_gone (a1 : Int32) (a2 : Int32) (μ : Mm) : Aa := mm_cl (fX7_isPerson a1 μ) (fun (x1 : Int32) (m2 : Mm) => mm_lt (fun (m3 : Mm) => some ((-1), m3)) (fun (k_20 : Mm → Aa) => if x1 = 0 then (k_20 m2) else (mm_cl (fX7_in a2.toInt64 0 999 m2) (fun (x4 : Int32) (m5 : Mm) => if x4 = 0 then (k_20 m5) else (mm_cl (fX7_begin m5) (fun (x6 : Int32) (m7 : Mm) => mm_cl (fX7_goTo a2 m7) (fun (x8 : Int32) (m9 : Mm) => mm_ck a1 10 (mm_lt (fun (x10 : Int32) (m11 : Mm) => some (x10, m11)) (fun (k_52 : Int32 → Mm → Aa) => if (m9 5 a1.toNatClampNeg) = 2 then (mm_ck a1 10 (k_52 (m9 7 a1.toNatClampNeg) m9)) else (k_52 ((-4)) m9))))))))))
abbrev rX7_gone : Room := { frames := 5, cells := 0, slots := 0, locals := 114 }
set_option maxRecDepth 100000 in
set_option maxHeartbeats 8000000 in
theorem tX7_gone {l : Launch} {D : va_G} {cA : Nat → ClassId} {adr : Nat → Nat} (hJ : mm_J adr NM) (a1 : Int32) (a2 : Int32) (μ : Mm) : mm_Mi l D cA adr sM NM mm_SM yX7_gone cX7_gone 3 (some .int) rX7_gone [.ref (adr 0), .int a1, .int a2] μ (fX7_gone a1 a2 μ) := by
  refine mm_entryi hJ mm_okM (by decide) (Nat.le_of_ble_eq_true rfl) ⟨rfl, rfl⟩ (fun p e s m below meth c X hr => ?_)
  generalize ([.ref (adr 0), .int a1, .int a2] : List Value).toArray = args at X ⊢
  refine gx_lv (lv' := [(0, .ref (adr 0)), (1, .int a1), (2, .int a2)]) rfl ?_
  unfold fX7_gone
  refine gx_aload_n X 0 1 0 dX7_gone_0 rfl rfl rfl ?_
  refine gx_iload_n X 1 2 1 dX7_gone_1 rfl rfl rfl ?_
  refine gx_calliV X 2 5 0 (rest := []) (As := [.int a1]) (tX7_isPerson hJ a1 μ) (by decide) rfl rfl wc_X7_isPerson wl_X7_136 wi_X7_isPerson ws_X7_isPerson wn_X7 rfl hd_X7_isPerson ⟨Nat.le_of_ble_eq_true rfl, Nat.le_of_ble_eq_true rfl⟩ ⟨rfl, rfl⟩ rfl rfl (Nat.le_of_ble_eq_true rfl) dX7_gone_2 rfl (fun x1 m2 => ?_)
  refine gx_jn (fun (k : Mm → Aa) => ∀ (m3 : Mm), mm_G p l e rX7_gone s m args below meth c 3 D cA adr sM NM (mm_Qi D cA adr sM NM) m3 20 [] [] (k m3)) ?_ (fun k_20 hk_20 => ?_)
  · intro m3
    refine gx_iconst X 20 21 (-1) dX7_gone_20 rfl ci_m1 ?_
    exact gx_iret X 21 hr dX7_gone_21
  refine gx_if_eq X 5 20 8 dX7_gone_5 rfl rfl ?_ ?_
  · refine gx_sub [] rfl ?_
    exact hk_20 m2
  refine gx_iload_n X 8 9 2 dX7_gone_8 rfl rfl rfl ?_
  refine gx_i2l X 9 10 dX7_gone_9 rfl ?_
  refine gx_lconst X 10 11 (0) dX7_gone_10 rfl cl_0 ?_
  refine gx_ldc2_w X 11 14 wk_X7_251 dX7_gone_11 rfl ?_
  refine gx_calliS X 14 17 (rest := []) (As := [.long a2.toInt64, .long 0, .long 999]) (tX7_in hJ a2.toInt64 0 999 m2) wc_X7_in wl_X7_101 wt_X7_in wn_X7 hd_X7_in ⟨Nat.le_of_ble_eq_true rfl, Nat.le_of_ble_eq_true rfl⟩ ⟨rfl, rfl⟩ rfl rfl (Nat.le_of_ble_eq_true rfl) dX7_gone_14 rfl (fun x4 m5 => ?_)
  refine gx_if_ne X 17 22 20 dX7_gone_17 rfl rfl ?_ ?_
  · refine gx_aload_n X 22 23 0 dX7_gone_22 rfl rfl rfl ?_
    refine gx_callvV X 23 26 0 (rest := []) (As := []) (tX7_begin hJ m5) (by decide) rfl rfl wc_X7_begin wl_X7_237 wi_X7_begin ws_X7_begin wn_X7 rfl hd_X7_begin ⟨Nat.le_of_ble_eq_true rfl, Nat.le_of_ble_eq_true rfl⟩ ⟨rfl, rfl⟩ rfl rfl (Nat.le_of_ble_eq_true rfl) dX7_gone_23 rfl (fun x6 m7 => ?_)
    refine gx_aload_n X 26 27 0 dX7_gone_26 rfl rfl rfl ?_
    refine gx_iload_n X 27 28 2 dX7_gone_27 rfl rfl rfl ?_
    refine gx_callvV X 28 31 0 (rest := []) (As := [.int a2]) (tX7_goTo hJ a2 m7) (by decide) rfl rfl wc_X7_goTo wl_X7_240 wi_X7_goTo ws_X7_goTo wn_X7 rfl hd_X7_goTo ⟨Nat.le_of_ble_eq_true rfl, Nat.le_of_ble_eq_true rfl⟩ ⟨rfl, rfl⟩ rfl rfl (Nat.le_of_ble_eq_true rfl) dX7_gone_28 rfl (fun x8 m9 => ?_)
    refine gx_aload_n X 31 32 0 dX7_gone_31 rfl rfl rfl ?_
    refine gx_getR X 32 35 0 (by decide) rfl rfl fg_X7_26 dX7_gone_32 rfl ?_
    refine gx_iload_n X 35 36 1 dX7_gone_35 rfl rfl rfl ?_
    refine gx_iaload X 36 37 5 (by decide) rfl dX7_gone_36 rfl ?_
    refine gx_iconst X 37 38 (2) dX7_gone_37 rfl ci_2 ?_
    refine gx_jn (fun (k : Int32 → Mm → Aa) => ∀ (x10 : Int32) (m11 : Mm), mm_G p l e rX7_gone s m args below meth c 3 D cA adr sM NM (mm_Qi D cA adr sM NM) m11 52 [] [.int x10] (k x10 m11)) ?_ (fun k_52 hk_52 => ?_)
    · intro x10 m11
      exact gx_iret X 52 hr dX7_gone_52
    refine gx_icmp_ne X 38 50 41 dX7_gone_38 rfl rfl ?_ ?_
    · refine gx_bipush X 50 52 (-4) dX7_gone_50 rfl cb_m4 ?_
      refine gx_sub [] rfl ?_
      exact hk_52 ((-4)) m9
    refine gx_aload_n X 41 42 0 dX7_gone_41 rfl rfl rfl ?_
    refine gx_getR X 42 45 0 (by decide) rfl rfl fg_X7_32 dX7_gone_42 rfl ?_
    refine gx_iload_n X 45 46 1 dX7_gone_45 rfl rfl rfl ?_
    refine gx_iaload X 46 47 7 (by decide) rfl dX7_gone_46 rfl ?_
    refine gx_goto X 47 52 dX7_gone_47 rfl ?_
    refine gx_sub [] rfl ?_
    exact hk_52 (m9 7 a1.toNatClampNeg) m9
  refine gx_sub [] rfl ?_
  exact hk_20 m5
def fX7_all_L22 (k_44 : Int32 → Mm → Aa) (rec_22 : Int32 → Int32 → Mm → Aa) (x15 : Int32) (x16 : Int32) (m17 : Mm) : Aa := if (m17 0 1) ≤ x16 then (k_44 x15 m17) else (mm_cl (fX7_wetOf x16 m17) (fun (x18 : Int32) (m19 : Mm) => mm_lt (x15 + x18) (fun (x20 : Int32) => mm_lt (x16 + 1) (fun (x21 : Int32) => rec_22 x20 x21 m19))))
def fX7_all (a1 : Int32) (μ : Mm) : Aa := mm_cl (fX7_in a1.toInt64 0 4 μ) (fun (x1 : Int32) (m2 : Mm) => if x1 = 0 then (some ((-1), m2)) else (mm_cl (fX7_goAll m2) (fun (x3 : Int32) (m4 : Mm) => mm_lt 0 (fun (x5 : Int32) => mm_lt 0 (fun (x6 : Int32) => mm_lt (fun (x7 : Int32) (m8 : Mm) => mm_lt (fun (x9 : Int32) (m10 : Mm) => some (x9, m10)) (fun (k_92 : Int32 → Mm → Aa) => if a1 = 0 then (k_92 (m8 0 23) m8) else (if a1 = 1 then (mm_cl (fX7_sumOver m8) (fun (x13 : Int32) (m14 : Mm) => k_92 x13 m14)) else (if a1 = 2 then (mm_cl (fX7_lastOver m8) (fun (x11 : Int32) (m12 : Mm) => k_92 x11 m12)) else (if a1 = 3 then (k_92 (m8 0 25) m8) else (k_92 x7 m8)))))) (fun (k_44 : Int32 → Mm → Aa) => mm_lk (fun (_ : Int32) (_ : Int32) (_ : Mm) => (none : Aa)) (fX7_all_L22 k_44) mm_fu x5 x6 m4))))))
abbrev rX7_all : Room := { frames := 6, cells := 0, slots := 0, locals := 134 }
set_option maxRecDepth 100000 in
set_option maxHeartbeats 8000000 in
theorem tX7_all {l : Launch} {D : va_G} {cA : Nat → ClassId} {adr : Nat → Nat} (hJ : mm_J adr NM) (a1 : Int32) (μ : Mm) : mm_Mi l D cA adr sM NM mm_SM yX7_all cX7_all 4 (some .int) rX7_all [.ref (adr 0), .int a1] μ (fX7_all a1 μ) := by
  refine mm_entryi hJ mm_okM (by decide) (Nat.le_of_ble_eq_true rfl) ⟨rfl, rfl⟩ (fun p e s m below meth c X hr => ?_)
  generalize ([.ref (adr 0), .int a1] : List Value).toArray = args at X ⊢
  refine gx_lv (lv' := [(0, .ref (adr 0)), (1, .int a1)]) rfl ?_
  unfold fX7_all
  refine gx_iload_n X 0 1 1 dX7_all_0 rfl rfl rfl ?_
  refine gx_i2l X 1 2 dX7_all_1 rfl ?_
  refine gx_lconst X 2 3 (0) dX7_all_2 rfl cl_0 ?_
  refine gx_ldc2_w X 3 6 wk_X7_243 dX7_all_3 rfl ?_
  refine gx_calliS X 6 9 (rest := []) (As := [.long a1.toInt64, .long 0, .long 4]) (tX7_in hJ a1.toInt64 0 4 μ) wc_X7_in wl_X7_101 wt_X7_in wn_X7 hd_X7_in ⟨Nat.le_of_ble_eq_true rfl, Nat.le_of_ble_eq_true rfl⟩ ⟨rfl, rfl⟩ rfl rfl (Nat.le_of_ble_eq_true rfl) dX7_all_6 rfl (fun x1 m2 => ?_)
  refine gx_if_ne X 9 14 12 dX7_all_9 rfl rfl ?_ ?_
  · refine gx_aload_n X 14 15 0 dX7_all_14 rfl rfl rfl ?_
    refine gx_callvV X 15 18 0 (rest := []) (As := []) (tX7_goAll hJ m2) (by decide) rfl rfl wc_X7_goAll wl_X7_245 wi_X7_goAll ws_X7_goAll wn_X7 rfl hd_X7_goAll ⟨Nat.le_of_ble_eq_true rfl, Nat.le_of_ble_eq_true rfl⟩ ⟨rfl, rfl⟩ rfl rfl (Nat.le_of_ble_eq_true rfl) dX7_all_15 rfl (fun x3 m4 => ?_)
    refine gx_iconst X 18 19 (0) dX7_all_18 rfl ci_0 ?_
    refine gx_istore_n X 19 20 (fun x5 => [(2, .int x5), (0, .ref (adr 0)), (1, .int a1)]) dX7_all_19 rfl rfl (by decide) (fun _ => rfl) (fun x5 => ?_)
    refine gx_iconst X 20 21 (0) dX7_all_20 rfl ci_0 ?_
    refine gx_istore_n X 21 22 (fun x6 => [(3, .int x6), (2, .int x5), (0, .ref (adr 0)), (1, .int a1)]) dX7_all_21 rfl rfl (by decide) (fun _ => rfl) (fun x6 => ?_)
    refine gx_jn (fun (k : Int32 → Mm → Aa) => ∀ (x7 : Int32) (m8 : Mm), mm_G p l e rX7_all s m args below meth c 4 D cA adr sM NM (mm_Qi D cA adr sM NM) m8 44 [(0, .ref (adr 0)), (1, .int a1), (2, .int x7)] [] (k x7 m8)) ?_ (fun k_44 hk_44 => ?_)
    · intro x7 m8
      refine gx_iload_n X 44 45 1 dX7_all_44 rfl rfl rfl ?_
      refine gx_jn (fun (k : Int32 → Mm → Aa) => ∀ (x9 : Int32) (m10 : Mm), mm_G p l e rX7_all s m args below meth c 4 D cA adr sM NM (mm_Qi D cA adr sM NM) m10 92 [] [.int x9] (k x9 m10)) ?_ (fun k_92 hk_92 => ?_)
      · intro x9 m10
        exact gx_iret X 92 hr dX7_all_92
      refine gx_if_ne X 45 55 48 dX7_all_45 rfl rfl ?_ ?_
      · refine gx_iload_n X 55 56 1 dX7_all_55 rfl rfl rfl ?_
        refine gx_iconst X 56 57 (1) dX7_all_56 rfl ci_1 ?_
        refine gx_icmp_ne X 57 67 60 dX7_all_57 rfl rfl ?_ ?_
        · refine gx_iload_n X 67 68 1 dX7_all_67 rfl rfl rfl ?_
          refine gx_iconst X 68 69 (2) dX7_all_68 rfl ci_2 ?_
          refine gx_icmp_ne X 69 79 72 dX7_all_69 rfl rfl ?_ ?_
          · refine gx_iload_n X 79 80 1 dX7_all_79 rfl rfl rfl ?_
            refine gx_iconst X 80 81 (3) dX7_all_80 rfl ci_3 ?_
            refine gx_icmp_ne X 81 91 84 dX7_all_81 rfl rfl ?_ ?_
            · refine gx_iload_n X 91 92 2 dX7_all_91 rfl rfl rfl ?_
              refine gx_sub [] rfl ?_
              exact hk_92 x7 m8
            refine gx_aload_n X 84 85 0 dX7_all_84 rfl rfl rfl ?_
            refine gx_getI X 85 88 0 (by decide) rfl rfl fg_X7_197 dX7_all_85 rfl ?_
            refine gx_goto X 88 92 dX7_all_88 rfl ?_
            refine gx_sub [] rfl ?_
            exact hk_92 (m8 0 25) m8
          refine gx_aload_n X 72 73 0 dX7_all_72 rfl rfl rfl ?_
          refine gx_calliV X 73 76 0 (rest := []) (As := []) (tX7_lastOver hJ m8) (by decide) rfl rfl wc_X7_lastOver wl_X7_256 wi_X7_lastOver ws_X7_lastOver wn_X7 rfl hd_X7_lastOver ⟨Nat.le_of_ble_eq_true rfl, Nat.le_of_ble_eq_true rfl⟩ ⟨rfl, rfl⟩ rfl rfl (Nat.le_of_ble_eq_true rfl) dX7_all_73 rfl (fun x11 m12 => ?_)
          refine gx_goto X 76 92 dX7_all_76 rfl ?_
          refine gx_sub [] rfl ?_
          exact hk_92 x11 m12
        refine gx_aload_n X 60 61 0 dX7_all_60 rfl rfl rfl ?_
        refine gx_calliV X 61 64 0 (rest := []) (As := []) (tX7_sumOver hJ m8) (by decide) rfl rfl wc_X7_sumOver wl_X7_253 wi_X7_sumOver ws_X7_sumOver wn_X7 rfl hd_X7_sumOver ⟨Nat.le_of_ble_eq_true rfl, Nat.le_of_ble_eq_true rfl⟩ ⟨rfl, rfl⟩ rfl rfl (Nat.le_of_ble_eq_true rfl) dX7_all_61 rfl (fun x13 m14 => ?_)
        refine gx_goto X 64 92 dX7_all_64 rfl ?_
        refine gx_sub [] rfl ?_
        exact hk_92 x13 m14
      refine gx_aload_n X 48 49 0 dX7_all_48 rfl rfl rfl ?_
      refine gx_getI X 49 52 0 (by decide) rfl rfl fg_X7_191 dX7_all_49 rfl ?_
      refine gx_goto X 52 92 dX7_all_52 rfl ?_
      refine gx_sub [] rfl ?_
      exact hk_92 (m8 0 23) m8
    refine gx_sub [2, 3, 1, 0] rfl ?_
    refine mm_lk_ind (fun (rec : Int32 → Int32 → Mm → Aa) => ∀ (x15 : Int32) (x16 : Int32) (m17 : Mm), mm_G p l e rX7_all s m args below meth c 4 D cA adr sM NM (mm_Qi D cA adr sM NM) m17 22 [(0, .ref (adr 0)), (1, .int a1), (2, .int x15), (3, .int x16)] [] (rec x15 x16 m17)) (fun _ _ _ => gx_none) (fun rec_22 hr_22 x15 x16 m17 => ?_) mm_fu x5 x6 m4
    unfold fX7_all_L22
    refine gx_iload_n X 22 23 3 dX7_all_22 rfl rfl rfl ?_
    refine gx_aload_n X 23 24 0 dX7_all_23 rfl rfl rfl ?_
    refine gx_getI X 24 27 0 (by decide) rfl rfl fg_X7_98 dX7_all_24 rfl ?_
    refine gx_icmp_ge X 27 44 30 dX7_all_27 rfl rfl ?_ ?_
    · refine gx_sub [0, 1, 2] rfl ?_
      exact hk_44 x15 m17
    refine gx_iload_n X 30 31 2 dX7_all_30 rfl rfl rfl ?_
    refine gx_aload_n X 31 32 0 dX7_all_31 rfl rfl rfl ?_
    refine gx_iload_n X 32 33 3 dX7_all_32 rfl rfl rfl ?_
    refine gx_calliV X 33 36 0 (rest := [.int x15]) (As := [.int x16]) (tX7_wetOf hJ x16 m17) (by decide) rfl rfl wc_X7_wetOf wl_X7_248 wi_X7_wetOf ws_X7_wetOf wn_X7 rfl hd_X7_wetOf ⟨Nat.le_of_ble_eq_true rfl, Nat.le_of_ble_eq_true rfl⟩ ⟨rfl, rfl⟩ rfl rfl (Nat.le_of_ble_eq_true rfl) dX7_all_33 rfl (fun x18 m19 => ?_)
    refine gx_iadd X 36 37 dX7_all_36 rfl ?_
    refine gx_istore_n X 37 38 (fun x20 => [(2, .int x20), (0, .ref (adr 0)), (1, .int a1), (3, .int x16)]) dX7_all_37 rfl rfl (by decide) (fun _ => rfl) (fun x20 => ?_)
    refine gx_iinc X 38 41 3 (1) (fun x21 => [(3, .int x21), (2, .int x20), (0, .ref (adr 0)), (1, .int a1)]) dX7_all_38 rfl rfl ci_1 (by decide) (fun _ => rfl) (fun x21 => ?_)
    refine gx_goto X 41 22 dX7_all_41 rfl ?_
    refine gx_sub [2, 3, 1, 0] rfl ?_
    exact hr_22 x20 x21 m19
  refine gx_iconst X 12 13 (-1) dX7_all_12 rfl ci_m1 ?_
  exact gx_iret X 13 hr dX7_all_13
def fX7_onesOf_L4 (k_21 : Int32 → Mm → Aa) (rec_4 : Int32 → Int32 → Mm → Aa) (x5 : Int32) (x6 : Int32) (m7 : Mm) : Aa := if x6 ≤ 0 then (k_21 x5 m7) else (mm_lt (x5 + (x6 &&& 1)) (fun (x8 : Int32) => mm_lt (x6 >>> (1 &&& 31)) (fun (x9 : Int32) => rec_4 x8 x9 m7)))
def fX7_onesOf (a0 : Int32) (μ : Mm) : Aa := mm_lt 0 (fun (x1 : Int32) => mm_lt a0 (fun (x2 : Int32) => mm_lt (fun (x3 : Int32) (m4 : Mm) => some (x3, m4)) (fun (k_21 : Int32 → Mm → Aa) => mm_lk (fun (_ : Int32) (_ : Int32) (_ : Mm) => (none : Aa)) (fX7_onesOf_L4 k_21) mm_fu x1 x2 μ)))
abbrev rX7_onesOf : Room := { frames := 0, cells := 0, slots := 0, locals := 0 }
set_option maxRecDepth 100000 in
set_option maxHeartbeats 8000000 in
theorem tX7_onesOf {l : Launch} {D : va_G} {cA : Nat → ClassId} {adr : Nat → Nat} (hJ : mm_J adr NM) (a0 : Int32) (μ : Mm) : mm_Mi l D cA adr sM NM mm_SM yX7_onesOf cX7_onesOf 3 (some .int) rX7_onesOf [.int a0] μ (fX7_onesOf a0 μ) := by
  refine mm_entryi hJ mm_okM (by decide) (Nat.le_of_ble_eq_true rfl) ⟨rfl, rfl⟩ (fun p e s m below meth c X hr => ?_)
  generalize ([.int a0] : List Value).toArray = args at X ⊢
  refine gx_lv (lv' := [(0, .int a0)]) rfl ?_
  unfold fX7_onesOf
  refine gx_iconst X 0 1 (0) dX7_onesOf_0 rfl ci_0 ?_
  refine gx_istore_n X 1 2 (fun x1 => [(1, .int x1), (0, .int a0)]) dX7_onesOf_1 rfl rfl (by decide) (fun _ => rfl) (fun x1 => ?_)
  refine gx_iload_n X 2 3 1 dX7_onesOf_2 rfl rfl rfl ?_
  refine gx_istore_n X 3 4 (fun x2 => [(2, .int x2), (1, .int x1), (0, .int a0)]) dX7_onesOf_3 rfl rfl (by decide) (fun _ => rfl) (fun x2 => ?_)
  refine gx_jn (fun (k : Int32 → Mm → Aa) => ∀ (x3 : Int32) (m4 : Mm), mm_G p l e rX7_onesOf s m args below meth c 3 D cA adr sM NM (mm_Qi D cA adr sM NM) m4 21 [(1, .int x3)] [] (k x3 m4)) ?_ (fun k_21 hk_21 => ?_)
  · intro x3 m4
    refine gx_iload_n X 21 22 0 dX7_onesOf_21 rfl rfl rfl ?_
    exact gx_iret X 22 hr dX7_onesOf_22
  refine gx_sub [1, 0] rfl ?_
  refine mm_lk_ind (fun (rec : Int32 → Int32 → Mm → Aa) => ∀ (x5 : Int32) (x6 : Int32) (m7 : Mm), mm_G p l e rX7_onesOf s m args below meth c 3 D cA adr sM NM (mm_Qi D cA adr sM NM) m7 4 [(1, .int x5), (2, .int x6)] [] (rec x5 x6 m7)) (fun _ _ _ => gx_none) (fun rec_4 hr_4 x5 x6 m7 => ?_) mm_fu x1 x2 μ
  unfold fX7_onesOf_L4
  refine gx_iload_n X 4 5 1 dX7_onesOf_4 rfl rfl rfl ?_
  refine gx_if_le X 5 21 8 dX7_onesOf_5 rfl rfl ?_ ?_
  · refine gx_sub [0] rfl ?_
    exact hk_21 x5 m7
  refine gx_iload_n X 8 9 0 dX7_onesOf_8 rfl rfl rfl ?_
  refine gx_iload_n X 9 10 1 dX7_onesOf_9 rfl rfl rfl ?_
  refine gx_iconst X 10 11 (1) dX7_onesOf_10 rfl ci_1 ?_
  refine gx_iand X 11 12 dX7_onesOf_11 rfl ?_
  refine gx_iadd X 12 13 dX7_onesOf_12 rfl ?_
  refine gx_istore_n X 13 14 (fun x8 => [(1, .int x8), (2, .int x6)]) dX7_onesOf_13 rfl rfl (by decide) (fun _ => rfl) (fun x8 => ?_)
  refine gx_iload_n X 14 15 1 dX7_onesOf_14 rfl rfl rfl ?_
  refine gx_iconst X 15 16 (1) dX7_onesOf_15 rfl ci_1 ?_
  refine gx_ishr X 16 17 dX7_onesOf_16 rfl ?_
  refine gx_istore_n X 17 18 (fun x9 => [(2, .int x9), (1, .int x8)]) dX7_onesOf_17 rfl rfl (by decide) (fun _ => rfl) (fun x9 => ?_)
  refine gx_goto X 18 4 dX7_onesOf_18 rfl ?_
  refine gx_sub [1, 0] rfl ?_
  exact hr_4 x8 x9 m7
def fX7_takeSome_L7 (a1 : Int32) (k_58 : Mm → Aa) (rec_7 : Int32 → Mm → Aa) (x11 : Int32) (m12 : Mm) : Aa := if (m12 0 1) ≤ x11 then (k_58 m12) else (mm_cl (fX7_has a1 x11 m12) (fun (x13 : Int32) (m14 : Mm) => mm_lt (fun (m15 : Mm) => mm_lt (x11 + 1) (fun (x16 : Int32) => rec_7 x16 m15)) (fun (k_52 : Mm → Aa) => if x13 = 0 then (k_52 m14) else (if 6 ≤ (m14 0 29) then (k_52 m14) else (mm_ck (m14 0 29) 6 (mm_lt (mm_wr m14 19 (m14 0 29).toNatClampNeg x11) (fun (m17 : Mm) => mm_lt (mm_wr m17 0 29 ((m17 0 29) + 1)) (fun (m18 : Mm) => k_52 m18))))))))
def fX7_takeSome (a1 : Int32) (μ : Mm) : Aa := mm_lt (mm_wr μ 0 29 0) (fun (m1 : Mm) => mm_lt 0 (fun (x2 : Int32) => mm_lt (fun (m3 : Mm) => mm_cl (fX7_in a1.toInt64 1 (((1 <<< ((m3 0 1) &&& 31)) - 1).toInt64) m3) (fun (x4 : Int32) (m5 : Mm) => mm_lt (fun (x6 : Int32) (m7 : Mm) => mm_bo x6 (some (x6, m7))) (fun (k_90 : Int32 → Mm → Aa) => mm_lt (fun (m8 : Mm) => k_90 0 m8) (fun (k_89 : Mm → Aa) => if x4 = 0 then (k_89 m5) else (mm_cl (fX7_onesOf a1 m5) (fun (x9 : Int32) (m10 : Mm) => if 6 < x9 then (k_89 m10) else (k_90 1 m10))))))) (fun (k_58 : Mm → Aa) => mm_lk (fun (_ : Int32) (_ : Mm) => (none : Aa)) (fX7_takeSome_L7 a1 k_58) mm_fu x2 m1)))
abbrev rX7_takeSome : Room := { frames := 1, cells := 0, slots := 0, locals := 25 }
set_option maxRecDepth 100000 in
set_option maxHeartbeats 8000000 in
theorem tX7_takeSome {l : Launch} {D : va_G} {cA : Nat → ClassId} {adr : Nat → Nat} (hJ : mm_J adr NM) (a1 : Int32) (μ : Mm) : mm_Mi l D cA adr sM NM mm_SM yX7_takeSome cX7_takeSome 3 (some .boolean) rX7_takeSome [.ref (adr 0), .int a1] μ (fX7_takeSome a1 μ) := by
  refine mm_entryi hJ mm_okM (by decide) (Nat.le_of_ble_eq_true rfl) ⟨rfl, rfl⟩ (fun p e s m below meth c X hr => ?_)
  generalize ([.ref (adr 0), .int a1] : List Value).toArray = args at X ⊢
  refine gx_lv (lv' := [(0, .ref (adr 0)), (1, .int a1)]) rfl ?_
  unfold fX7_takeSome
  refine gx_aload_n X 0 1 0 dX7_takeSome_0 rfl rfl rfl ?_
  refine gx_iconst X 1 2 (0) dX7_takeSome_1 rfl ci_0 ?_
  refine gx_putI X 2 5 0 (by decide) rfl rfl fp_X7_259 dX7_takeSome_2 rfl (fun m1 => ?_)
  refine gx_iconst X 5 6 (0) dX7_takeSome_5 rfl ci_0 ?_
  refine gx_istore_n X 6 7 (fun x2 => [(2, .int x2), (0, .ref (adr 0)), (1, .int a1)]) dX7_takeSome_6 rfl rfl (by decide) (fun _ => rfl) (fun x2 => ?_)
  refine gx_jn (fun (k : Mm → Aa) => ∀ (m3 : Mm), mm_G p l e rX7_takeSome s m args below meth c 3 D cA adr sM NM (mm_Qi D cA adr sM NM) m3 58 [(0, .ref (adr 0)), (1, .int a1)] [] (k m3)) ?_ (fun k_58 hk_58 => ?_)
  · intro m3
    refine gx_iload_n X 58 59 1 dX7_takeSome_58 rfl rfl rfl ?_
    refine gx_i2l X 59 60 dX7_takeSome_59 rfl ?_
    refine gx_lconst X 60 61 (1) dX7_takeSome_60 rfl cl_1 ?_
    refine gx_iconst X 61 62 (1) dX7_takeSome_61 rfl ci_1 ?_
    refine gx_aload_n X 62 63 0 dX7_takeSome_62 rfl rfl rfl ?_
    refine gx_getI X 63 66 0 (by decide) rfl rfl fg_X7_98 dX7_takeSome_63 rfl ?_
    refine gx_ishl X 66 67 dX7_takeSome_66 rfl ?_
    refine gx_iconst X 67 68 (1) dX7_takeSome_67 rfl ci_1 ?_
    refine gx_isub X 68 69 dX7_takeSome_68 rfl ?_
    refine gx_i2l X 69 70 dX7_takeSome_69 rfl ?_
    refine gx_calliS X 70 73 (rest := []) (As := [.long a1.toInt64, .long 1, .long (((1 <<< ((m3 0 1) &&& 31)) - 1).toInt64)]) (tX7_in hJ a1.toInt64 1 (((1 <<< ((m3 0 1) &&& 31)) - 1).toInt64) m3) wc_X7_in wl_X7_101 wt_X7_in wn_X7 hd_X7_in ⟨Nat.le_of_ble_eq_true rfl, Nat.le_of_ble_eq_true rfl⟩ ⟨rfl, rfl⟩ rfl rfl (Nat.le_of_ble_eq_true rfl) dX7_takeSome_70 rfl (fun x4 m5 => ?_)
    refine gx_jn (fun (k : Int32 → Mm → Aa) => ∀ (x6 : Int32) (m7 : Mm), mm_G p l e rX7_takeSome s m args below meth c 3 D cA adr sM NM (mm_Qi D cA adr sM NM) m7 90 [] [.int x6] (k x6 m7)) ?_ (fun k_90 hk_90 => ?_)
    · intro x6 m7
      exact gx_zret X 90 hr dX7_takeSome_90
    refine gx_jn (fun (k : Mm → Aa) => ∀ (m8 : Mm), mm_G p l e rX7_takeSome s m args below meth c 3 D cA adr sM NM (mm_Qi D cA adr sM NM) m8 89 [] [] (k m8)) ?_ (fun k_89 hk_89 => ?_)
    · intro m8
      refine gx_iconst X 89 90 (0) dX7_takeSome_89 rfl ci_0 ?_
      exact hk_90 0 m8
    refine gx_if_eq X 73 89 76 dX7_takeSome_73 rfl rfl ?_ ?_
    · refine gx_sub [] rfl ?_
      exact hk_89 m5
    refine gx_iload_n X 76 77 1 dX7_takeSome_76 rfl rfl rfl ?_
    refine gx_calliS X 77 80 (rest := []) (As := [.int a1]) (tX7_onesOf hJ a1 m5) wc_X7_onesOf wl_X7_262 wt_X7_onesOf wn_X7 hd_X7_onesOf ⟨Nat.le_of_ble_eq_true rfl, Nat.le_of_ble_eq_true rfl⟩ ⟨rfl, rfl⟩ rfl rfl (Nat.le_of_ble_eq_true rfl) dX7_takeSome_77 rfl (fun x9 m10 => ?_)
    refine gx_bipush X 80 82 (6) dX7_takeSome_80 rfl cb_6 ?_
    refine gx_icmp_gt X 82 89 85 dX7_takeSome_82 rfl rfl ?_ ?_
    · refine gx_sub [] rfl ?_
      exact hk_89 m10
    refine gx_iconst X 85 86 (1) dX7_takeSome_85 rfl ci_1 ?_
    refine gx_goto X 86 90 dX7_takeSome_86 rfl ?_
    refine gx_sub [] rfl ?_
    exact hk_90 1 m10
  refine gx_sub [1, 2, 0] rfl ?_
  refine mm_lk_ind (fun (rec : Int32 → Mm → Aa) => ∀ (x11 : Int32) (m12 : Mm), mm_G p l e rX7_takeSome s m args below meth c 3 D cA adr sM NM (mm_Qi D cA adr sM NM) m12 7 [(0, .ref (adr 0)), (1, .int a1), (2, .int x11)] [] (rec x11 m12)) (fun _ _ => gx_none) (fun rec_7 hr_7 x11 m12 => ?_) mm_fu x2 m1
  unfold fX7_takeSome_L7
  refine gx_iload_n X 7 8 2 dX7_takeSome_7 rfl rfl rfl ?_
  refine gx_aload_n X 8 9 0 dX7_takeSome_8 rfl rfl rfl ?_
  refine gx_getI X 9 12 0 (by decide) rfl rfl fg_X7_98 dX7_takeSome_9 rfl ?_
  refine gx_icmp_ge X 12 58 15 dX7_takeSome_12 rfl rfl ?_ ?_
  · refine gx_sub [0, 1] rfl ?_
    exact hk_58 m12
  refine gx_iload_n X 15 16 1 dX7_takeSome_15 rfl rfl rfl ?_
  refine gx_iload_n X 16 17 2 dX7_takeSome_16 rfl rfl rfl ?_
  refine gx_calliS X 17 20 (rest := []) (As := [.int a1, .int x11]) (tX7_has hJ a1 x11 m12) wc_X7_has wl_X7_221 wt_X7_has wn_X7 hd_X7_has ⟨Nat.le_of_ble_eq_true rfl, Nat.le_of_ble_eq_true rfl⟩ ⟨rfl, rfl⟩ rfl rfl (Nat.le_of_ble_eq_true rfl) dX7_takeSome_17 rfl (fun x13 m14 => ?_)
  refine gx_jn (fun (k : Mm → Aa) => ∀ (m15 : Mm), mm_G p l e rX7_takeSome s m args below meth c 3 D cA adr sM NM (mm_Qi D cA adr sM NM) m15 52 [(0, .ref (adr 0)), (1, .int a1), (2, .int x11)] [] (k m15)) ?_ (fun k_52 hk_52 => ?_)
  · intro m15
    refine gx_iinc X 52 55 2 (1) (fun x16 => [(2, .int x16), (0, .ref (adr 0)), (1, .int a1)]) dX7_takeSome_52 rfl rfl ci_1 (by decide) (fun _ => rfl) (fun x16 => ?_)
    refine gx_goto X 55 7 dX7_takeSome_55 rfl ?_
    refine gx_sub [1, 2, 0] rfl ?_
    exact hr_7 x16 m15
  refine gx_if_eq X 20 52 23 dX7_takeSome_20 rfl rfl ?_ ?_
  · exact hk_52 m14
  refine gx_aload_n X 23 24 0 dX7_takeSome_23 rfl rfl rfl ?_
  refine gx_getI X 24 27 0 (by decide) rfl rfl fg_X7_259 dX7_takeSome_24 rfl ?_
  refine gx_bipush X 27 29 (6) dX7_takeSome_27 rfl cb_6 ?_
  refine gx_icmp_ge X 29 52 32 dX7_takeSome_29 rfl rfl ?_ ?_
  · exact hk_52 m14
  refine gx_aload_n X 32 33 0 dX7_takeSome_32 rfl rfl rfl ?_
  refine gx_getR X 33 36 0 (by decide) rfl rfl fg_X7_71 dX7_takeSome_33 rfl ?_
  refine gx_aload_n X 36 37 0 dX7_takeSome_36 rfl rfl rfl ?_
  refine gx_getI X 37 40 0 (by decide) rfl rfl fg_X7_259 dX7_takeSome_37 rfl ?_
  refine gx_iload_n X 40 41 2 dX7_takeSome_40 rfl rfl rfl ?_
  refine gx_iastore X 41 42 19 (by decide) rfl dX7_takeSome_41 rfl (fun m17 => ?_)
  refine gx_aload_n X 42 43 0 dX7_takeSome_42 rfl rfl rfl ?_
  refine gx_dup X 43 44 dX7_takeSome_43 rfl rfl ?_
  refine gx_getI X 44 47 0 (by decide) rfl rfl fg_X7_259 dX7_takeSome_44 rfl ?_
  refine gx_iconst X 47 48 (1) dX7_takeSome_47 rfl ci_1 ?_
  refine gx_iadd X 48 49 dX7_takeSome_48 rfl ?_
  refine gx_putI X 49 52 0 (by decide) rfl rfl fp_X7_259 dX7_takeSome_49 rfl (fun m18 => ?_)
  exact hk_52 m18
def fX7_judge_L83 (k_107 : Mm → Aa) (rec_83 : Int32 → Mm → Aa) (x12 : Int32) (m13 : Mm) : Aa := if 6 ≤ x12 then (k_107 m13) else (mm_ck x12 6 (mm_ck x12 6 (mm_lt (mm_wr m13 21 x12.toNatClampNeg (m13 20 x12.toNatClampNeg)) (fun (m14 : Mm) => mm_lt (x12 + 1) (fun (x15 : Int32) => rec_83 x15 m14)))))
def fX7_judge_L6 (k_40 : Int32 → Int32 → Mm → Aa) (rec_6 : Int32 → Int32 → Int32 → Mm → Aa) (x16 : Int32) (x17 : Int32) (x18 : Int32) (m19 : Mm) : Aa := if (m19 0 29) ≤ x18 then (k_40 x16 x17 m19) else (mm_ck x18 6 (mm_cl (fX7_most x16 (m19 22 x18.toNatClampNeg) m19) (fun (x20 : Int32) (m21 : Mm) => mm_lt x20 (fun (x22 : Int32) => mm_ck x18 6 (mm_lt (x17 + (m21 22 x18.toNatClampNeg)) (fun (x23 : Int32) => mm_lt (x18 + 1) (fun (x24 : Int32) => rec_6 x22 x23 x24 m21)))))))
def fX7_judge (μ : Mm) : Aa := mm_lt 0 (fun (x1 : Int32) => mm_lt 0 (fun (x2 : Int32) => mm_lt 0 (fun (x3 : Int32) => mm_lt (fun (x4 : Int32) (x5 : Int32) (m6 : Mm) => mm_lt (fun (m7 : Mm) => some (0, m7)) (fun (k_107 : Mm → Aa) => mm_lt (fun (m8 : Mm) => mm_lt (mm_wr m8 0 33 x4) (fun (m9 : Mm) => mm_lt (mm_wr m9 0 34 x5) (fun (m10 : Mm) => mm_lt 0 (fun (x11 : Int32) => mm_lk (fun (_ : Int32) (_ : Mm) => (none : Aa)) (fX7_judge_L83 k_107) mm_fu x11 m10)))) (fun (k_71 : Mm → Aa) => if (m6 0 33) < 0 then (k_71 m6) else (if x4 < (m6 0 33) then (k_71 m6) else (if x4 = (m6 0 33) then (if (m6 0 34) ≤ x5 then (k_107 m6) else (k_71 m6)) else (k_107 m6)))))) (fun (k_40 : Int32 → Int32 → Mm → Aa) => mm_lk (fun (_ : Int32) (_ : Int32) (_ : Int32) (_ : Mm) => (none : Aa)) (fX7_judge_L6 k_40) mm_fu x1 x2 x3 μ))))
abbrev rX7_judge : Room := { frames := 1, cells := 0, slots := 0, locals := 21 }
set_option maxRecDepth 100000 in
set_option maxHeartbeats 8000000 in
theorem tX7_judge {l : Launch} {D : va_G} {cA : Nat → ClassId} {adr : Nat → Nat} (hJ : mm_J adr NM) (μ : Mm) : mm_Mv l D cA adr sM NM mm_SM yX7_judge cX7_judge 4 none rX7_judge [.ref (adr 0)] μ (fX7_judge μ) := by
  refine mm_entryv hJ mm_okM (by decide) (Nat.le_of_ble_eq_true rfl) ⟨rfl, rfl⟩ (fun p e s m below meth c X hr => ?_)
  generalize ([.ref (adr 0)] : List Value).toArray = args at X ⊢
  refine gx_lv (lv' := [(0, .ref (adr 0))]) rfl ?_
  unfold fX7_judge
  refine gx_iconst X 0 1 (0) dX7_judge_0 rfl ci_0 ?_
  refine gx_istore_n X 1 2 (fun x1 => [(1, .int x1), (0, .ref (adr 0))]) dX7_judge_1 rfl rfl (by decide) (fun _ => rfl) (fun x1 => ?_)
  refine gx_iconst X 2 3 (0) dX7_judge_2 rfl ci_0 ?_
  refine gx_istore_n X 3 4 (fun x2 => [(2, .int x2), (1, .int x1), (0, .ref (adr 0))]) dX7_judge_3 rfl rfl (by decide) (fun _ => rfl) (fun x2 => ?_)
  refine gx_iconst X 4 5 (0) dX7_judge_4 rfl ci_0 ?_
  refine gx_istore_n X 5 6 (fun x3 => [(3, .int x3), (2, .int x2), (1, .int x1), (0, .ref (adr 0))]) dX7_judge_5 rfl rfl (by decide) (fun _ => rfl) (fun x3 => ?_)
  refine gx_jn (fun (k : Int32 → Int32 → Mm → Aa) => ∀ (x4 : Int32) (x5 : Int32) (m6 : Mm), mm_G p l e rX7_judge s m args below meth c 4 D cA adr sM NM (mm_Qv D cA adr sM NM) m6 40 [(0, .ref (adr 0)), (1, .int x4), (2, .int x5)] [] (k x4 x5 m6)) ?_ (fun k_40 hk_40 => ?_)
  · intro x4 x5 m6
    refine gx_aload_n X 40 41 0 dX7_judge_40 rfl rfl rfl ?_
    refine gx_getI X 41 44 0 (by decide) rfl rfl fg_X7_265 dX7_judge_41 rfl ?_
    refine gx_jn (fun (k : Mm → Aa) => ∀ (m7 : Mm), mm_G p l e rX7_judge s m args below meth c 4 D cA adr sM NM (mm_Qv D cA adr sM NM) m7 107 [] [] (k m7)) ?_ (fun k_107 hk_107 => ?_)
    · intro m7
      exact gx_vret X 107 hr dX7_judge_107
    refine gx_jn (fun (k : Mm → Aa) => ∀ (m8 : Mm), mm_G p l e rX7_judge s m args below meth c 4 D cA adr sM NM (mm_Qv D cA adr sM NM) m8 71 [(0, .ref (adr 0)), (1, .int x4), (2, .int x5)] [] (k m8)) ?_ (fun k_71 hk_71 => ?_)
    · intro m8
      refine gx_aload_n X 71 72 0 dX7_judge_71 rfl rfl rfl ?_
      refine gx_iload_n X 72 73 1 dX7_judge_72 rfl rfl rfl ?_
      refine gx_putI X 73 76 0 (by decide) rfl rfl fp_X7_265 dX7_judge_73 rfl (fun m9 => ?_)
      refine gx_aload_n X 76 77 0 dX7_judge_76 rfl rfl rfl ?_
      refine gx_iload_n X 77 78 2 dX7_judge_77 rfl rfl rfl ?_
      refine gx_putI X 78 81 0 (by decide) rfl rfl fp_X7_268 dX7_judge_78 rfl (fun m10 => ?_)
      refine gx_iconst X 81 82 (0) dX7_judge_81 rfl ci_0 ?_
      refine gx_istore_n X 82 83 (fun x11 => [(3, .int x11), (0, .ref (adr 0)), (1, .int x4), (2, .int x5)]) dX7_judge_82 rfl rfl (by decide) (fun _ => rfl) (fun x11 => ?_)
      refine gx_sub [1, 0] rfl ?_
      refine mm_lk_ind (fun (rec : Int32 → Mm → Aa) => ∀ (x12 : Int32) (m13 : Mm), mm_G p l e rX7_judge s m args below meth c 4 D cA adr sM NM (mm_Qv D cA adr sM NM) m13 83 [(0, .ref (adr 0)), (3, .int x12)] [] (rec x12 m13)) (fun _ _ => gx_none) (fun rec_83 hr_83 x12 m13 => ?_) mm_fu x11 m10
      unfold fX7_judge_L83
      refine gx_iload_n X 83 84 1 dX7_judge_83 rfl rfl rfl ?_
      refine gx_bipush X 84 86 (6) dX7_judge_84 rfl cb_6 ?_
      refine gx_icmp_ge X 86 107 89 dX7_judge_86 rfl rfl ?_ ?_
      · refine gx_sub [] rfl ?_
        exact hk_107 m13
      refine gx_aload_n X 89 90 0 dX7_judge_89 rfl rfl rfl ?_
      refine gx_getR X 90 93 0 (by decide) rfl rfl fg_X7_77 dX7_judge_90 rfl ?_
      refine gx_iload_n X 93 94 1 dX7_judge_93 rfl rfl rfl ?_
      refine gx_aload_n X 94 95 0 dX7_judge_94 rfl rfl rfl ?_
      refine gx_getR X 95 98 0 (by decide) rfl rfl fg_X7_74 dX7_judge_95 rfl ?_
      refine gx_iload_n X 98 99 1 dX7_judge_98 rfl rfl rfl ?_
      refine gx_iaload X 99 100 20 (by decide) rfl dX7_judge_99 rfl ?_
      refine gx_iastore X 100 101 21 (by decide) rfl dX7_judge_100 rfl (fun m14 => ?_)
      refine gx_iinc X 101 104 1 (1) (fun x15 => [(3, .int x15), (0, .ref (adr 0))]) dX7_judge_101 rfl rfl ci_1 (by decide) (fun _ => rfl) (fun x15 => ?_)
      refine gx_goto X 104 83 dX7_judge_104 rfl ?_
      refine gx_sub [1, 0] rfl ?_
      exact hr_83 x15 m14
    refine gx_if_lt X 44 71 47 dX7_judge_44 rfl rfl ?_ ?_
    · exact hk_71 m6
    refine gx_iload_n X 47 48 1 dX7_judge_47 rfl rfl rfl ?_
    refine gx_aload_n X 48 49 0 dX7_judge_48 rfl rfl rfl ?_
    refine gx_getI X 49 52 0 (by decide) rfl rfl fg_X7_265 dX7_judge_49 rfl ?_
    refine gx_icmp_lt X 52 71 55 dX7_judge_52 rfl rfl ?_ ?_
    · exact hk_71 m6
    refine gx_iload_n X 55 56 1 dX7_judge_55 rfl rfl rfl ?_
    refine gx_aload_n X 56 57 0 dX7_judge_56 rfl rfl rfl ?_
    refine gx_getI X 57 60 0 (by decide) rfl rfl fg_X7_265 dX7_judge_57 rfl ?_
    refine gx_icmp_ne X 60 107 63 dX7_judge_60 rfl rfl ?_ ?_
    · refine gx_sub [] rfl ?_
      exact hk_107 m6
    refine gx_iload_n X 63 64 2 dX7_judge_63 rfl rfl rfl ?_
    refine gx_aload_n X 64 65 0 dX7_judge_64 rfl rfl rfl ?_
    refine gx_getI X 65 68 0 (by decide) rfl rfl fg_X7_268 dX7_judge_65 rfl ?_
    refine gx_icmp_ge X 68 107 71 dX7_judge_68 rfl rfl ?_ ?_
    · refine gx_sub [] rfl ?_
      exact hk_107 m6
    exact hk_71 m6
  refine gx_sub [3, 2, 1, 0] rfl ?_
  refine mm_lk_ind (fun (rec : Int32 → Int32 → Int32 → Mm → Aa) => ∀ (x16 : Int32) (x17 : Int32) (x18 : Int32) (m19 : Mm), mm_G p l e rX7_judge s m args below meth c 4 D cA adr sM NM (mm_Qv D cA adr sM NM) m19 6 [(0, .ref (adr 0)), (1, .int x16), (2, .int x17), (3, .int x18)] [] (rec x16 x17 x18 m19)) (fun _ _ _ _ => gx_none) (fun rec_6 hr_6 x16 x17 x18 m19 => ?_) mm_fu x1 x2 x3 μ
  unfold fX7_judge_L6
  refine gx_iload_n X 6 7 3 dX7_judge_6 rfl rfl rfl ?_
  refine gx_aload_n X 7 8 0 dX7_judge_7 rfl rfl rfl ?_
  refine gx_getI X 8 11 0 (by decide) rfl rfl fg_X7_259 dX7_judge_8 rfl ?_
  refine gx_icmp_ge X 11 40 14 dX7_judge_11 rfl rfl ?_ ?_
  · refine gx_sub [0, 1, 2] rfl ?_
    exact hk_40 x16 x17 m19
  refine gx_iload_n X 14 15 1 dX7_judge_14 rfl rfl rfl ?_
  refine gx_aload_n X 15 16 0 dX7_judge_15 rfl rfl rfl ?_
  refine gx_getR X 16 19 0 (by decide) rfl rfl fg_X7_80 dX7_judge_16 rfl ?_
  refine gx_iload_n X 19 20 3 dX7_judge_19 rfl rfl rfl ?_
  refine gx_iaload X 20 21 22 (by decide) rfl dX7_judge_20 rfl ?_
  refine gx_calliS X 21 24 (rest := []) (As := [.int x16, .int (m19 22 x18.toNatClampNeg)]) (tX7_most hJ x16 (m19 22 x18.toNatClampNeg) m19) wc_X7_most wl_X7_132 wt_X7_most wn_X7 hd_X7_most ⟨Nat.le_of_ble_eq_true rfl, Nat.le_of_ble_eq_true rfl⟩ ⟨rfl, rfl⟩ rfl rfl (Nat.le_of_ble_eq_true rfl) dX7_judge_21 rfl (fun x20 m21 => ?_)
  refine gx_istore_n X 24 25 (fun x22 => [(1, .int x22), (0, .ref (adr 0)), (2, .int x17), (3, .int x18)]) dX7_judge_24 rfl rfl (by decide) (fun _ => rfl) (fun x22 => ?_)
  refine gx_iload_n X 25 26 2 dX7_judge_25 rfl rfl rfl ?_
  refine gx_aload_n X 26 27 1 dX7_judge_26 rfl rfl rfl ?_
  refine gx_getR X 27 30 0 (by decide) rfl rfl fg_X7_80 dX7_judge_27 rfl ?_
  refine gx_iload_n X 30 31 3 dX7_judge_30 rfl rfl rfl ?_
  refine gx_iaload X 31 32 22 (by decide) rfl dX7_judge_31 rfl ?_
  refine gx_iadd X 32 33 dX7_judge_32 rfl ?_
  refine gx_istore_n X 33 34 (fun x23 => [(2, .int x23), (1, .int x22), (0, .ref (adr 0)), (3, .int x18)]) dX7_judge_33 rfl rfl (by decide) (fun _ => rfl) (fun x23 => ?_)
  refine gx_iinc X 34 37 3 (1) (fun x24 => [(3, .int x24), (2, .int x23), (1, .int x22), (0, .ref (adr 0))]) dX7_judge_34 rfl rfl ci_1 (by decide) (fun _ => rfl) (fun x24 => ?_)
  refine gx_goto X 37 6 dX7_judge_37 rfl ?_
  refine gx_sub [3, 2, 1, 0] rfl ?_
  exact hr_6 x22 x23 x24 m21
def fX7_beginSome_L29 (k_64 : Mm → Aa) (rec_29 : Int32 → Mm → Aa) (x6 : Int32) (m7 : Mm) : Aa := if (m7 0 29) ≤ x6 then (k_64 m7) else (mm_ck x6 10 (mm_lt (mm_wr m7 7 x6.toNatClampNeg 0) (fun (m8 : Mm) => mm_ck x6 10 (mm_lt (mm_wr m8 8 x6.toNatClampNeg 0) (fun (m9 : Mm) => mm_ck x6 6 (mm_lt (mm_wr m9 22 x6.toNatClampNeg ((-1))) (fun (m10 : Mm) => mm_lt (x6 + 1) (fun (x11 : Int32) => rec_29 x11 m10))))))))
def fX7_beginSome (μ : Mm) : Aa := mm_lt (mm_wr μ 0 23 (μ 0 3)) (fun (m1 : Mm) => mm_ck 1 6 (mm_lt (mm_wr m1 0 26 (m1 2 (1 : Int32).toNatClampNeg)) (fun (m2 : Mm) => mm_ck 0 2 (mm_lt (mm_wr m2 18 (0 : Int32).toNatClampNeg ((-1000))) (fun (m3 : Mm) => mm_lt 0 (fun (x4 : Int32) => mm_lt (fun (m5 : Mm) => some (0, m5)) (fun (k_64 : Mm → Aa) => mm_lk (fun (_ : Int32) (_ : Mm) => (none : Aa)) (fX7_beginSome_L29 k_64) mm_fu x4 m3)))))))
abbrev rX7_beginSome : Room := { frames := 0, cells := 0, slots := 0, locals := 0 }
set_option maxRecDepth 100000 in
set_option maxHeartbeats 8000000 in
theorem tX7_beginSome {l : Launch} {D : va_G} {cA : Nat → ClassId} {adr : Nat → Nat} (hJ : mm_J adr NM) (μ : Mm) : mm_Mv l D cA adr sM NM mm_SM yX7_beginSome cX7_beginSome 2 none rX7_beginSome [.ref (adr 0)] μ (fX7_beginSome μ) := by
  refine mm_entryv hJ mm_okM (by decide) (Nat.le_of_ble_eq_true rfl) ⟨rfl, rfl⟩ (fun p e s m below meth c X hr => ?_)
  generalize ([.ref (adr 0)] : List Value).toArray = args at X ⊢
  refine gx_lv (lv' := [(0, .ref (adr 0))]) rfl ?_
  unfold fX7_beginSome
  refine gx_aload_n X 0 1 0 dX7_beginSome_0 rfl rfl rfl ?_
  refine gx_aload_n X 1 2 0 dX7_beginSome_1 rfl rfl rfl ?_
  refine gx_getI X 2 5 0 (by decide) rfl rfl fg_X7_16 dX7_beginSome_2 rfl ?_
  refine gx_putI X 5 8 0 (by decide) rfl rfl fp_X7_191 dX7_beginSome_5 rfl (fun m1 => ?_)
  refine gx_aload_n X 8 9 0 dX7_beginSome_8 rfl rfl rfl ?_
  refine gx_aload_n X 9 10 0 dX7_beginSome_9 rfl rfl rfl ?_
  refine gx_getR X 10 13 0 (by decide) rfl rfl fg_X7_13 dX7_beginSome_10 rfl ?_
  refine gx_iconst X 13 14 (1) dX7_beginSome_13 rfl ci_1 ?_
  refine gx_iaload X 14 15 2 (by decide) rfl dX7_beginSome_14 rfl ?_
  refine gx_putI X 15 18 0 (by decide) rfl rfl fp_X7_200 dX7_beginSome_15 rfl (fun m2 => ?_)
  refine gx_aload_n X 18 19 0 dX7_beginSome_18 rfl rfl rfl ?_
  refine gx_getR X 19 22 0 (by decide) rfl rfl fg_X7_65 dX7_beginSome_19 rfl ?_
  refine gx_iconst X 22 23 (0) dX7_beginSome_22 rfl ci_0 ?_
  refine gx_sipush X 23 26 (-1000) dX7_beginSome_23 rfl cs_m1000 ?_
  refine gx_iastore X 26 27 18 (by decide) rfl dX7_beginSome_26 rfl (fun m3 => ?_)
  refine gx_iconst X 27 28 (0) dX7_beginSome_27 rfl ci_0 ?_
  refine gx_istore_n X 28 29 (fun x4 => [(1, .int x4), (0, .ref (adr 0))]) dX7_beginSome_28 rfl rfl (by decide) (fun _ => rfl) (fun x4 => ?_)
  refine gx_jn (fun (k : Mm → Aa) => ∀ (m5 : Mm), mm_G p l e rX7_beginSome s m args below meth c 2 D cA adr sM NM (mm_Qv D cA adr sM NM) m5 64 [] [] (k m5)) ?_ (fun k_64 hk_64 => ?_)
  · intro m5
    exact gx_vret X 64 hr dX7_beginSome_64
  refine gx_sub [1, 0] rfl ?_
  refine mm_lk_ind (fun (rec : Int32 → Mm → Aa) => ∀ (x6 : Int32) (m7 : Mm), mm_G p l e rX7_beginSome s m args below meth c 2 D cA adr sM NM (mm_Qv D cA adr sM NM) m7 29 [(0, .ref (adr 0)), (1, .int x6)] [] (rec x6 m7)) (fun _ _ => gx_none) (fun rec_29 hr_29 x6 m7 => ?_) mm_fu x4 m3
  unfold fX7_beginSome_L29
  refine gx_iload_n X 29 30 1 dX7_beginSome_29 rfl rfl rfl ?_
  refine gx_aload_n X 30 31 0 dX7_beginSome_30 rfl rfl rfl ?_
  refine gx_getI X 31 34 0 (by decide) rfl rfl fg_X7_259 dX7_beginSome_31 rfl ?_
  refine gx_icmp_ge X 34 64 37 dX7_beginSome_34 rfl rfl ?_ ?_
  · refine gx_sub [] rfl ?_
    exact hk_64 m7
  refine gx_aload_n X 37 38 0 dX7_beginSome_37 rfl rfl rfl ?_
  refine gx_getR X 38 41 0 (by decide) rfl rfl fg_X7_32 dX7_beginSome_38 rfl ?_
  refine gx_iload_n X 41 42 1 dX7_beginSome_41 rfl rfl rfl ?_
  refine gx_iconst X 42 43 (0) dX7_beginSome_42 rfl ci_0 ?_
  refine gx_iastore X 43 44 7 (by decide) rfl dX7_beginSome_43 rfl (fun m8 => ?_)
  refine gx_aload_n X 44 45 0 dX7_beginSome_44 rfl rfl rfl ?_
  refine gx_getR X 45 48 0 (by decide) rfl rfl fg_X7_35 dX7_beginSome_45 rfl ?_
  refine gx_iload_n X 48 49 1 dX7_beginSome_48 rfl rfl rfl ?_
  refine gx_iconst X 49 50 (0) dX7_beginSome_49 rfl ci_0 ?_
  refine gx_iastore X 50 51 8 (by decide) rfl dX7_beginSome_50 rfl (fun m9 => ?_)
  refine gx_aload_n X 51 52 0 dX7_beginSome_51 rfl rfl rfl ?_
  refine gx_getR X 52 55 0 (by decide) rfl rfl fg_X7_80 dX7_beginSome_52 rfl ?_
  refine gx_iload_n X 55 56 1 dX7_beginSome_55 rfl rfl rfl ?_
  refine gx_iconst X 56 57 (-1) dX7_beginSome_56 rfl ci_m1 ?_
  refine gx_iastore X 57 58 22 (by decide) rfl dX7_beginSome_57 rfl (fun m10 => ?_)
  refine gx_iinc X 58 61 1 (1) (fun x11 => [(1, .int x11), (0, .ref (adr 0))]) dX7_beginSome_58 rfl rfl ci_1 (by decide) (fun _ => rfl) (fun x11 => ?_)
  refine gx_goto X 61 29 dX7_beginSome_61 rfl ?_
  refine gx_sub [1, 0] rfl ?_
  exact hr_29 x11 m10
