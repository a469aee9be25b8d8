def fX7_type_L74 (a1 : Int64) (k_116 : Mm → Aa) (rec_74 : Int32 → Mm → Aa) (x7 : Int32) (m8 : Mm) : Aa := if x7 < 0 then (k_116 m8) else (mm_ck (m8 0 5) 80 (mm_lt (mm_wr m8 3 (m8 0 5).toNatClampNeg (((a1 >>> ((8 * x7).toInt64 &&& 63)) &&& 255).toInt32)) (fun (m9 : Mm) => mm_lt (mm_wr m9 0 5 ((m9 0 5) + 1)) (fun (m10 : Mm) => mm_lt (x7 + (-1)) (fun (x11 : Int32) => rec_74 x11 m10)))))
def fX7_type_L19 (a1 : Int64) (k_47 : Mm → Aa) (k_55 : Mm → Aa) (rec_19 : Int32 → Mm → Aa) (x13 : Int32) (m14 : Mm) : Aa := if x13 < 0 then (k_55 m14) else (mm_cl (fX7_in ((a1 >>> ((8 * x13).toInt64 &&& 63)) &&& 255) 32 126 m14) (fun (x15 : Int32) (m16 : Mm) => if x15 = 0 then (k_47 m16) else (mm_lt (x13 + (-1)) (fun (x17 : Int32) => rec_19 x17 m16))))
def fX7_type (a1 : Int64) (a2 : Int32) (μ : Mm) : Aa := mm_cl (fX7_in a2.toInt64 1 8 μ) (fun (x1 : Int32) (m2 : Mm) => if x1 = 0 then (some ((-1), m2)) else (mm_lt (a2 - 1) (fun (x3 : Int32) => mm_lt (fun (m4 : Mm) => if ((m4 0 5) + a2) ≤ 80 then (mm_lt (a2 - 1) (fun (x5 : Int32) => mm_lt (fun (m6 : Mm) => some (m6 0 5, m6)) (fun (k_116 : Mm → Aa) => mm_lk (fun (_ : Int32) (_ : Mm) => (none : Aa)) (fX7_type_L74 a1 k_116) mm_fu x5 m4))) else (some ((-3), m4))) (fun (k_55 : Mm → Aa) => mm_lt (fun (m12 : Mm) => some ((-1), m12)) (fun (k_47 : Mm → Aa) => mm_lk (fun (_ : Int32) (_ : Mm) => (none : Aa)) (fX7_type_L19 a1 k_47 k_55) mm_fu x3 m2)))))
abbrev rX7_type : Room := { frames := 1, cells := 0, slots := 0, locals := 25 }
set_option maxRecDepth 100000 in
set_option maxHeartbeats 8000000 in
theorem tX7_type {l : Launch} {D : va_G} {cA : Nat → ClassId} {adr : Nat → Nat} (hJ : mm_J adr NM) (a1 : Int64) (a2 : Int32) (μ : Mm) : mm_Mi l D cA adr sM NM mm_SM yX7_type cX7_type 5 (some .int) rX7_type [.ref (adr 0), .long a1, .int a2] μ (fX7_type a1 a2 μ) := by
  refine mm_entryi hJ mm_okM (by decide) (Nat.le_of_ble_eq_true rfl) ⟨rfl, rfl⟩ (fun p e s m below meth c X hr => ?_)
  generalize ([.ref (adr 0), .long a1, .int a2] : List Value).toArray = args at X ⊢
  refine gx_lv (lv' := [(0, .ref (adr 0)), (1, .long a1), (3, .int a2)]) rfl ?_
  unfold fX7_type
  refine gx_iload_n X 0 1 2 dX7_type_0 rfl rfl rfl ?_
  refine gx_i2l X 1 2 dX7_type_1 rfl ?_
  refine gx_lconst X 2 3 (1) dX7_type_2 rfl cl_1 ?_
  refine gx_ldc2_w X 3 6 wk_X7_147 dX7_type_3 rfl ?_
  refine gx_calliS X 6 9 (rest := []) (As := [.long a2.toInt64, .long 1, .long 8]) (tX7_in hJ a2.toInt64 1 8 μ) wc_X7_in wl_X7_101 wt_X7_in wn_X7 hd_X7_in ⟨Nat.le_of_ble_eq_true rfl, Nat.le_of_ble_eq_true rfl⟩ ⟨rfl, rfl⟩ rfl rfl (Nat.le_of_ble_eq_true rfl) dX7_type_6 rfl (fun x1 m2 => ?_)
  refine gx_if_ne X 9 14 12 dX7_type_9 rfl rfl ?_ ?_
  · refine gx_iload_n X 14 15 2 dX7_type_14 rfl rfl rfl ?_
    refine gx_iconst X 15 16 (1) dX7_type_15 rfl ci_1 ?_
    refine gx_isub X 16 17 dX7_type_16 rfl ?_
    refine gx_istore X 17 19 (fun x3 => [(4, .int x3), (0, .ref (adr 0)), (1, .long a1), (3, .int a2)]) dX7_type_17 rfl (by decide) (fun _ => rfl) (fun x3 => ?_)
    refine gx_jn (fun (k : Mm → Aa) => ∀ (m4 : Mm), mm_G p l e rX7_type s m args below meth c 5 D cA adr sM NM (mm_Qi D cA adr sM NM) m4 55 [(0, .ref (adr 0)), (1, .long a1), (3, .int a2)] [] (k m4)) ?_ (fun k_55 hk_55 => ?_)
    · intro m4
      refine gx_aload_n X 55 56 0 dX7_type_55 rfl rfl rfl ?_
      refine gx_getI X 56 59 0 (by decide) rfl rfl fg_X7_155 dX7_type_56 rfl ?_
      refine gx_iload_n X 59 60 2 dX7_type_59 rfl rfl rfl ?_
      refine gx_iadd X 60 61 dX7_type_60 rfl ?_
      refine gx_bipush X 61 63 (80) dX7_type_61 rfl cb_80 ?_
      refine gx_icmp_le X 63 69 66 dX7_type_63 rfl rfl ?_ ?_
      · refine gx_iload_n X 69 70 2 dX7_type_69 rfl rfl rfl ?_
        refine gx_iconst X 70 71 (1) dX7_type_70 rfl ci_1 ?_
        refine gx_isub X 71 72 dX7_type_71 rfl ?_
        refine gx_istore X 72 74 (fun x5 => [(4, .int x5), (0, .ref (adr 0)), (1, .long a1), (3, .int a2)]) dX7_type_72 rfl (by decide) (fun _ => rfl) (fun x5 => ?_)
        refine gx_jn (fun (k : Mm → Aa) => ∀ (m6 : Mm), mm_G p l e rX7_type s m args below meth c 5 D cA adr sM NM (mm_Qi D cA adr sM NM) m6 116 [(0, .ref (adr 0))] [] (k m6)) ?_ (fun k_116 hk_116 => ?_)
        · intro m6
          refine gx_aload_n X 116 117 0 dX7_type_116 rfl rfl rfl ?_
          refine gx_getI X 117 120 0 (by decide) rfl rfl fg_X7_155 dX7_type_117 rfl ?_
          exact gx_iret X 120 hr dX7_type_120
        refine gx_sub [1, 2, 0] rfl ?_
        refine mm_lk_ind (fun (rec : Int32 → Mm → Aa) => ∀ (x7 : Int32) (m8 : Mm), mm_G p l e rX7_type s m args below meth c 5 D cA adr sM NM (mm_Qi D cA adr sM NM) m8 74 [(0, .ref (adr 0)), (1, .long a1), (4, .int x7)] [] (rec x7 m8)) (fun _ _ => gx_none) (fun rec_74 hr_74 x7 m8 => ?_) mm_fu x5 m4
        unfold fX7_type_L74
        refine gx_iload X 74 76 2 dX7_type_74 rfl rfl ?_
        refine gx_if_lt X 76 116 79 dX7_type_76 rfl rfl ?_ ?_
        · refine gx_sub [0] rfl ?_
          exact hk_116 m8
        refine gx_aload_n X 79 80 0 dX7_type_79 rfl rfl rfl ?_
        refine gx_getR X 80 83 0 (by decide) rfl rfl fg_X7_20 dX7_type_80 rfl ?_
        refine gx_aload_n X 83 84 0 dX7_type_83 rfl rfl rfl ?_
        refine gx_getI X 84 87 0 (by decide) rfl rfl fg_X7_155 dX7_type_84 rfl ?_
        refine gx_lload_n X 87 88 1 dX7_type_87 rfl rfl rfl ?_
        refine gx_bipush X 88 90 (8) dX7_type_88 rfl cb_8 ?_
        refine gx_iload X 90 92 2 dX7_type_90 rfl rfl ?_
        refine gx_imul X 92 93 dX7_type_92 rfl ?_
        refine gx_lshr X 93 94 dX7_type_93 rfl ?_
        refine gx_ldc2_w X 94 97 wk_X7_149 dX7_type_94 rfl ?_
        refine gx_land X 97 98 dX7_type_97 rfl ?_
        refine gx_l2i X 98 99 dX7_type_98 rfl ?_
        refine gx_iastore X 99 100 3 (by decide) rfl dX7_type_99 rfl (fun m9 => ?_)
        refine gx_aload_n X 100 101 0 dX7_type_100 rfl rfl rfl ?_
        refine gx_dup X 101 102 dX7_type_101 rfl rfl ?_
        refine gx_getI X 102 105 0 (by decide) rfl rfl fg_X7_155 dX7_type_102 rfl ?_
        refine gx_iconst X 105 106 (1) dX7_type_105 rfl ci_1 ?_
        refine gx_iadd X 106 107 dX7_type_106 rfl ?_
        refine gx_putI X 107 110 0 (by decide) rfl rfl fp_X7_155 dX7_type_107 rfl (fun m10 => ?_)
        refine gx_iinc X 110 113 2 (-1) (fun x11 => [(4, .int x11), (0, .ref (adr 0)), (1, .long a1)]) dX7_type_110 rfl rfl ci_m1 (by decide) (fun _ => rfl) (fun x11 => ?_)
        refine gx_goto X 113 74 dX7_type_113 rfl ?_
        refine gx_sub [1, 2, 0] rfl ?_
        exact hr_74 x11 m10
      refine gx_bipush X 66 68 (-3) dX7_type_66 rfl cb_m3 ?_
      exact gx_iret X 68 hr dX7_type_68
    refine gx_jn (fun (k : Mm → Aa) => ∀ (m12 : Mm), mm_G p l e rX7_type s m args below meth c 5 D cA adr sM NM (mm_Qi D cA adr sM NM) m12 47 [] [] (k m12)) ?_ (fun k_47 hk_47 => ?_)
    · intro m12
      refine gx_iconst X 47 48 (-1) dX7_type_47 rfl ci_m1 ?_
      exact gx_iret X 48 hr dX7_type_48
    refine gx_sub [1, 2, 3, 0] rfl ?_
    refine mm_lk_ind (fun (rec : Int32 → Mm → Aa) => ∀ (x13 : Int32) (m14 : Mm), mm_G p l e rX7_type s m args below meth c 5 D cA adr sM NM (mm_Qi D cA adr sM NM) m14 19 [(0, .ref (adr 0)), (1, .long a1), (3, .int a2), (4, .int x13)] [] (rec x13 m14)) (fun _ _ => gx_none) (fun rec_19 hr_19 x13 m14 => ?_) mm_fu x3 m2
    unfold fX7_type_L19
    refine gx_iload X 19 21 3 dX7_type_19 rfl rfl ?_
    refine gx_if_lt X 21 55 24 dX7_type_21 rfl rfl ?_ ?_
    · refine gx_sub [0, 1, 2] rfl ?_
      exact hk_55 m14
    refine gx_lload_n X 24 25 1 dX7_type_24 rfl rfl rfl ?_
    refine gx_bipush X 25 27 (8) dX7_type_25 rfl cb_8 ?_
    refine gx_iload X 27 29 3 dX7_type_27 rfl rfl ?_
    refine gx_imul X 29 30 dX7_type_29 rfl ?_
    refine gx_lshr X 30 31 dX7_type_30 rfl ?_
    refine gx_ldc2_w X 31 34 wk_X7_149 dX7_type_31 rfl ?_
    refine gx_land X 34 35 dX7_type_34 rfl ?_
    refine gx_ldc2_w X 35 38 wk_X7_151 dX7_type_35 rfl ?_
    refine gx_ldc2_w X 38 41 wk_X7_153 dX7_type_38 rfl ?_
    refine gx_calliS X 41 44 (rest := []) (As := [.long ((a1 >>> ((8 * x13).toInt64 &&& 63)) &&& 255), .long 32, .long 126]) (tX7_in hJ ((a1 >>> ((8 * x13).toInt64 &&& 63)) &&& 255) 32 126 m14) wc_X7_in wl_X7_101 wt_X7_in wn_X7 hd_X7_in ⟨Nat.le_of_ble_eq_true rfl, Nat.le_of_ble_eq_true rfl⟩ ⟨rfl, rfl⟩ rfl rfl (Nat.le_of_ble_eq_true rfl) dX7_type_41 rfl (fun x15 m16 => ?_)
    refine gx_if_ne X 44 49 47 dX7_type_44 rfl rfl ?_ ?_
    · refine gx_iinc X 49 52 3 (-1) (fun x17 => [(4, .int x17), (0, .ref (adr 0)), (1, .long a1), (3, .int a2)]) dX7_type_49 rfl rfl ci_m1 (by decide) (fun _ => rfl) (fun x17 => ?_)
      refine gx_goto X 52 19 dX7_type_52 rfl ?_
      refine gx_sub [1, 2, 3, 0] rfl ?_
      exact hr_19 x17 m16
    refine gx_sub [] rfl ?_
    exact hk_47 m16
  refine gx_iconst X 12 13 (-1) dX7_type_12 rfl ci_m1 ?_
  exact gx_iret X 13 hr dX7_type_13
def fX7_nextByte_L0 (k_38 : Mm → Aa) (rec_0 : Mm → Aa) (m4 : Mm) : Aa := if (m4 0 5) ≤ (m4 0 6) then (k_38 m4) else (mm_ck (m4 0 6) 80 (if (m4 3 (m4 0 6).toNatClampNeg) = 32 then (mm_lt (mm_wr m4 0 6 ((m4 0 6) + 1)) (fun (m5 : Mm) => rec_0 m5)) else (k_38 m4)))
def fX7_nextByte (μ : Mm) : Aa := mm_lt (fun (m1 : Mm) => mm_lt (fun (x2 : Int32) (m3 : Mm) => some (x2, m3)) (fun (k_62 : Int32 → Mm → Aa) => if (m1 0 5) ≤ (m1 0 6) then (k_62 ((-1)) m1) else (mm_ck (m1 0 6) 80 (k_62 (m1 3 (m1 0 6).toNatClampNeg) m1)))) (fun (k_38 : Mm → Aa) => mm_lk (fun (_ : Mm) => (none : Aa)) (fX7_nextByte_L0 k_38) mm_fu μ)
abbrev rX7_nextByte : Room := { frames := 0, cells := 0, slots := 0, locals := 0 }
set_option maxRecDepth 100000 in
set_option maxHeartbeats 8000000 in
theorem tX7_nextByte {l : Launch} {D : va_G} {cA : Nat → ClassId} {adr : Nat → Nat} (hJ : mm_J adr NM) (μ : Mm) : mm_Mi l D cA adr sM NM mm_SM yX7_nextByte cX7_nextByte 1 (some .int) rX7_nextByte [.ref (adr 0)] μ (fX7_nextByte μ) := by
  refine mm_entryi hJ mm_okM (by decide) (Nat.le_of_ble_eq_true rfl) ⟨rfl, rfl⟩ (fun p e s m below meth c X hr => ?_)
  generalize ([.ref (adr 0)] : List Value).toArray = args at X ⊢
  refine gx_lv (lv' := [(0, .ref (adr 0))]) rfl ?_
  unfold fX7_nextByte
  refine gx_jn (fun (k : Mm → Aa) => ∀ (m1 : Mm), mm_G p l e rX7_nextByte s m args below meth c 1 D cA adr sM NM (mm_Qi D cA adr sM NM) m1 38 [(0, .ref (adr 0))] [] (k m1)) ?_ (fun k_38 hk_38 => ?_)
  · intro m1
    refine gx_aload_n X 38 39 0 dX7_nextByte_38 rfl rfl rfl ?_
    refine gx_getI X 39 42 0 (by decide) rfl rfl fg_X7_158 dX7_nextByte_39 rfl ?_
    refine gx_aload_n X 42 43 0 dX7_nextByte_42 rfl rfl rfl ?_
    refine gx_getI X 43 46 0 (by decide) rfl rfl fg_X7_155 dX7_nextByte_43 rfl ?_
    refine gx_jn (fun (k : Int32 → Mm → Aa) => ∀ (x2 : Int32) (m3 : Mm), mm_G p l e rX7_nextByte s m args below meth c 1 D cA adr sM NM (mm_Qi D cA adr sM NM) m3 62 [] [.int x2] (k x2 m3)) ?_ (fun k_62 hk_62 => ?_)
    · intro x2 m3
      exact gx_iret X 62 hr dX7_nextByte_62
    refine gx_icmp_ge X 46 61 49 dX7_nextByte_46 rfl rfl ?_ ?_
    · refine gx_iconst X 61 62 (-1) dX7_nextByte_61 rfl ci_m1 ?_
      refine gx_sub [] rfl ?_
      exact hk_62 ((-1)) m1
    refine gx_aload_n X 49 50 0 dX7_nextByte_49 rfl rfl rfl ?_
    refine gx_getR X 50 53 0 (by decide) rfl rfl fg_X7_20 dX7_nextByte_50 rfl ?_
    refine gx_aload_n X 53 54 0 dX7_nextByte_53 rfl rfl rfl ?_
    refine gx_getI X 54 57 0 (by decide) rfl rfl fg_X7_158 dX7_nextByte_54 rfl ?_
    refine gx_iaload X 57 58 3 (by decide) rfl dX7_nextByte_57 rfl ?_
    refine gx_goto X 58 62 dX7_nextByte_58 rfl ?_
    refine gx_sub [] rfl ?_
    exact hk_62 (m1 3 (m1 0 6).toNatClampNeg) m1
  refine mm_lk_ind (fun (rec : Mm → Aa) => ∀ (m4 : Mm), mm_G p l e rX7_nextByte s m args below meth c 1 D cA adr sM NM (mm_Qi D cA adr sM NM) m4 0 [(0, .ref (adr 0))] [] (rec m4)) (fun _ => gx_none) (fun rec_0 hr_0 m4 => ?_) mm_fu μ
  unfold fX7_nextByte_L0
  refine gx_aload_n X 0 1 0 dX7_nextByte_0 rfl rfl rfl ?_
  refine gx_getI X 1 4 0 (by decide) rfl rfl fg_X7_158 dX7_nextByte_1 rfl ?_
  refine gx_aload_n X 4 5 0 dX7_nextByte_4 rfl rfl rfl ?_
  refine gx_getI X 5 8 0 (by decide) rfl rfl fg_X7_155 dX7_nextByte_5 rfl ?_
  refine gx_icmp_ge X 8 38 11 dX7_nextByte_8 rfl rfl ?_ ?_
  · exact hk_38 m4
  refine gx_aload_n X 11 12 0 dX7_nextByte_11 rfl rfl rfl ?_
  refine gx_getR X 12 15 0 (by decide) rfl rfl fg_X7_20 dX7_nextByte_12 rfl ?_
  refine gx_aload_n X 15 16 0 dX7_nextByte_15 rfl rfl rfl ?_
  refine gx_getI X 16 19 0 (by decide) rfl rfl fg_X7_158 dX7_nextByte_16 rfl ?_
  refine gx_iaload X 19 20 3 (by decide) rfl dX7_nextByte_19 rfl ?_
  refine gx_bipush X 20 22 (32) dX7_nextByte_20 rfl cb_32 ?_
  refine gx_icmp_ne X 22 38 25 dX7_nextByte_22 rfl rfl ?_ ?_
  · exact hk_38 m4
  refine gx_aload_n X 25 26 0 dX7_nextByte_25 rfl rfl rfl ?_
  refine gx_dup X 26 27 dX7_nextByte_26 rfl rfl ?_
  refine gx_getI X 27 30 0 (by decide) rfl rfl fg_X7_158 dX7_nextByte_27 rfl ?_
  refine gx_iconst X 30 31 (1) dX7_nextByte_30 rfl ci_1 ?_
  refine gx_iadd X 31 32 dX7_nextByte_31 rfl ?_
  refine gx_putI X 32 35 0 (by decide) rfl rfl fp_X7_158 dX7_nextByte_32 rfl (fun m5 => ?_)
  refine gx_goto X 35 0 dX7_nextByte_35 rfl ?_
  exact hr_0 m5
def fX7_readNumber_L13 (k_92 : Int32 → Mm → Aa) (rec_13 : Int32 → Mm → Aa) (x10 : Int32) (m11 : Mm) : Aa := if (m11 0 5) ≤ (m11 0 6) then (k_92 x10 m11) else (mm_ck (m11 0 6) 80 (mm_cl (fX7_in ((m11 3 (m11 0 6).toNatClampNeg).toInt64) 48 57 m11) (fun (x12 : Int32) (m13 : Mm) => if x12 = 0 then (k_92 x10 m13) else (mm_lt (fun (x14 : Int32) (m15 : Mm) => mm_lt x14 (fun (x16 : Int32) => mm_lt (mm_wr m15 0 6 ((m15 0 6) + 1)) (fun (m17 : Mm) => rec_13 x16 m17))) (fun (k_77 : Int32 → Mm → Aa) => if x10 ≤ 999 then (mm_ck (m13 0 6) 80 (k_77 (((10 * x10) + (m13 3 (m13 0 6).toNatClampNeg)) - 48) m13)) else (k_77 x10 m13))))))
def fX7_readNumber (a1 : Int32) (a2 : Int32) (μ : Mm) : Aa := mm_cl (fX7_nextByte μ) (fun (x1 : Int32) (m2 : Mm) => mm_lt (m2 0 6) (fun (x3 : Int32) => mm_lt 0 (fun (x4 : Int32) => mm_lt (fun (x5 : Int32) (m6 : Mm) => if (m6 0 6) = x3 then (some ((-1), m6)) else (mm_cl (fX7_in x5.toInt64 a1.toInt64 a2.toInt64 m6) (fun (x7 : Int32) (m8 : Mm) => if x7 = 0 then (mm_lt (mm_wr m8 0 6 x3) (fun (m9 : Mm) => some ((-1), m9))) else (some (x5, m8))))) (fun (k_92 : Int32 → Mm → Aa) => mm_lk (fun (_ : Int32) (_ : Mm) => (none : Aa)) (fX7_readNumber_L13 k_92) mm_fu x4 m2))))
abbrev rX7_readNumber : Room := { frames := 1, cells := 0, slots := 0, locals := 25 }
set_option maxRecDepth 100000 in
set_option maxHeartbeats 8000000 in
theorem tX7_readNumber {l : Launch} {D : va_G} {cA : Nat → ClassId} {adr : Nat → Nat} (hJ : mm_J adr NM) (a1 : Int32) (a2 : Int32) (μ : Mm) : mm_Mi l D cA adr sM NM mm_SM yX7_readNumber cX7_readNumber 5 (some .int) rX7_readNumber [.ref (adr 0), .int a1, .int a2] μ (fX7_readNumber a1 a2 μ) := by
  refine mm_entryi hJ mm_okM (by decide) (Nat.le_of_ble_eq_true rfl) ⟨rfl, rfl⟩ (fun p e s m below meth c X hr => ?_)
  generalize ([.ref (adr 0), .int a1, .int a2] : List Value).toArray = args at X ⊢
  refine gx_lv (lv' := [(0, .ref (adr 0)), (1, .int a1), (2, .int a2)]) rfl ?_
  unfold fX7_readNumber
  refine gx_aload_n X 0 1 0 dX7_readNumber_0 rfl rfl rfl ?_
  refine gx_calliV X 1 4 0 (rest := []) (As := []) (tX7_nextByte hJ μ) (by decide) rfl rfl wc_X7_nextByte wl_X7_161 wi_X7_nextByte ws_X7_nextByte wn_X7 rfl hd_X7_nextByte ⟨Nat.le_of_ble_eq_true rfl, Nat.le_of_ble_eq_true rfl⟩ ⟨rfl, rfl⟩ rfl rfl (Nat.le_of_ble_eq_true rfl) dX7_readNumber_1 rfl (fun x1 m2 => ?_)
  refine gx_pop X 4 5 dX7_readNumber_4 rfl rfl ?_
  refine gx_aload_n X 5 6 0 dX7_readNumber_5 rfl rfl rfl ?_
  refine gx_getI X 6 9 0 (by decide) rfl rfl fg_X7_158 dX7_readNumber_6 rfl ?_
  refine gx_istore_n X 9 10 (fun x3 => [(3, .int x3), (0, .ref (adr 0)), (1, .int a1), (2, .int a2)]) dX7_readNumber_9 rfl rfl (by decide) (fun _ => rfl) (fun x3 => ?_)
  refine gx_iconst X 10 11 (0) dX7_readNumber_10 rfl ci_0 ?_
  refine gx_istore X 11 13 (fun x4 => [(4, .int x4), (3, .int x3), (0, .ref (adr 0)), (1, .int a1), (2, .int a2)]) dX7_readNumber_11 rfl (by decide) (fun _ => rfl) (fun x4 => ?_)
  refine gx_jn (fun (k : Int32 → Mm → Aa) => ∀ (x5 : Int32) (m6 : Mm), mm_G p l e rX7_readNumber s m args below meth c 5 D cA adr sM NM (mm_Qi D cA adr sM NM) m6 92 [(0, .ref (adr 0)), (1, .int a1), (2, .int a2), (3, .int x3), (4, .int x5)] [] (k x5 m6)) ?_ (fun k_92 hk_92 => ?_)
  · intro x5 m6
    refine gx_aload_n X 92 93 0 dX7_readNumber_92 rfl rfl rfl ?_
    refine gx_getI X 93 96 0 (by decide) rfl rfl fg_X7_158 dX7_readNumber_93 rfl ?_
    refine gx_iload_n X 96 97 3 dX7_readNumber_96 rfl rfl rfl ?_
    refine gx_icmp_ne X 97 102 100 dX7_readNumber_97 rfl rfl ?_ ?_
    · refine gx_iload X 102 104 4 dX7_readNumber_102 rfl rfl ?_
      refine gx_i2l X 104 105 dX7_readNumber_104 rfl ?_
      refine gx_iload_n X 105 106 1 dX7_readNumber_105 rfl rfl rfl ?_
      refine gx_i2l X 106 107 dX7_readNumber_106 rfl ?_
      refine gx_iload_n X 107 108 2 dX7_readNumber_107 rfl rfl rfl ?_
      refine gx_i2l X 108 109 dX7_readNumber_108 rfl ?_
      refine gx_calliS X 109 112 (rest := []) (As := [.long x5.toInt64, .long a1.toInt64, .long a2.toInt64]) (tX7_in hJ x5.toInt64 a1.toInt64 a2.toInt64 m6) wc_X7_in wl_X7_101 wt_X7_in wn_X7 hd_X7_in ⟨Nat.le_of_ble_eq_true rfl, Nat.le_of_ble_eq_true rfl⟩ ⟨rfl, rfl⟩ rfl rfl (Nat.le_of_ble_eq_true rfl) dX7_readNumber_109 rfl (fun x7 m8 => ?_)
      refine gx_if_ne X 112 122 115 dX7_readNumber_112 rfl rfl ?_ ?_
      · refine gx_iload X 122 124 4 dX7_readNumber_122 rfl rfl ?_
        exact gx_iret X 124 hr dX7_readNumber_124
      refine gx_aload_n X 115 116 0 dX7_readNumber_115 rfl rfl rfl ?_
      refine gx_iload_n X 116 117 3 dX7_readNumber_116 rfl rfl rfl ?_
      refine gx_putI X 117 120 0 (by decide) rfl rfl fp_X7_158 dX7_readNumber_117 rfl (fun m9 => ?_)
      refine gx_iconst X 120 121 (-1) dX7_readNumber_120 rfl ci_m1 ?_
      exact gx_iret X 121 hr dX7_readNumber_121
    refine gx_iconst X 100 101 (-1) dX7_readNumber_100 rfl ci_m1 ?_
    exact gx_iret X 101 hr dX7_readNumber_101
  refine gx_sub [2, 3, 4, 1, 0] rfl ?_
  refine mm_lk_ind (fun (rec : Int32 → Mm → Aa) => ∀ (x10 : Int32) (m11 : Mm), mm_G p l e rX7_readNumber s m args below meth c 5 D cA adr sM NM (mm_Qi D cA adr sM NM) m11 13 [(0, .ref (adr 0)), (1, .int a1), (2, .int a2), (3, .int x3), (4, .int x10)] [] (rec x10 m11)) (fun _ _ => gx_none) (fun rec_13 hr_13 x10 m11 => ?_) mm_fu x4 m2
  unfold fX7_readNumber_L13
  refine gx_aload_n X 13 14 0 dX7_readNumber_13 rfl rfl rfl ?_
  refine gx_getI X 14 17 0 (by decide) rfl rfl fg_X7_158 dX7_readNumber_14 rfl ?_
  refine gx_aload_n X 17 18 0 dX7_readNumber_17 rfl rfl rfl ?_
  refine gx_getI X 18 21 0 (by decide) rfl rfl fg_X7_155 dX7_readNumber_18 rfl ?_
  refine gx_icmp_ge X 21 92 24 dX7_readNumber_21 rfl rfl ?_ ?_
  · exact hk_92 x10 m11
  refine gx_aload_n X 24 25 0 dX7_readNumber_24 rfl rfl rfl ?_
  refine gx_getR X 25 28 0 (by decide) rfl rfl fg_X7_20 dX7_readNumber_25 rfl ?_
  refine gx_aload_n X 28 29 0 dX7_readNumber_28 rfl rfl rfl ?_
  refine gx_getI X 29 32 0 (by decide) rfl rfl fg_X7_158 dX7_readNumber_29 rfl ?_
  refine gx_iaload X 32 33 3 (by decide) rfl dX7_readNumber_32 rfl ?_
  refine gx_i2l X 33 34 dX7_readNumber_33 rfl ?_
  refine gx_ldc2_w X 34 37 wk_X7_165 dX7_readNumber_34 rfl ?_
  refine gx_ldc2_w X 37 40 wk_X7_167 dX7_readNumber_37 rfl ?_
  refine gx_calliS X 40 43 (rest := []) (As := [.long ((m11 3 (m11 0 6).toNatClampNeg).toInt64), .long 48, .long 57]) (tX7_in hJ ((m11 3 (m11 0 6).toNatClampNeg).toInt64) 48 57 m11) wc_X7_in wl_X7_101 wt_X7_in wn_X7 hd_X7_in ⟨Nat.le_of_ble_eq_true rfl, Nat.le_of_ble_eq_true rfl⟩ ⟨rfl, rfl⟩ rfl rfl (Nat.le_of_ble_eq_true rfl) dX7_readNumber_40 rfl (fun x12 m13 => ?_)
  refine gx_if_eq X 43 92 46 dX7_readNumber_43 rfl rfl ?_ ?_
  · exact hk_92 x10 m13
  refine gx_iload X 46 48 4 dX7_readNumber_46 rfl rfl ?_
  refine gx_sipush X 48 51 (999) dX7_readNumber_48 rfl cs_999 ?_
  refine gx_jn (fun (k : Int32 → Mm → Aa) => ∀ (x14 : Int32) (m15 : Mm), mm_G p l e rX7_readNumber s m args below meth c 5 D cA adr sM NM (mm_Qi D cA adr sM NM) m15 77 [(0, .ref (adr 0)), (1, .int a1), (2, .int a2), (3, .int x3)] [.int x14] (k x14 m15)) ?_ (fun k_77 hk_77 => ?_)
  · intro x14 m15
    refine gx_istore X 77 79 (fun x16 => [(4, .int x16), (0, .ref (adr 0)), (1, .int a1), (2, .int a2), (3, .int x3)]) dX7_readNumber_77 rfl (by decide) (fun _ => rfl) (fun x16 => ?_)
    refine gx_aload_n X 79 80 1 dX7_readNumber_79 rfl rfl rfl ?_
    refine gx_dup X 80 81 dX7_readNumber_80 rfl rfl ?_
    refine gx_getI X 81 84 0 (by decide) rfl rfl fg_X7_158 dX7_readNumber_81 rfl ?_
    refine gx_iconst X 84 85 (1) dX7_readNumber_84 rfl ci_1 ?_
    refine gx_iadd X 85 86 dX7_readNumber_85 rfl ?_
    refine gx_putI X 86 89 0 (by decide) rfl rfl fp_X7_158 dX7_readNumber_86 rfl (fun m17 => ?_)
    refine gx_goto X 89 13 dX7_readNumber_89 rfl ?_
    refine gx_sub [1, 2, 3, 4, 0] rfl ?_
    exact hr_13 x16 m17
  refine gx_icmp_le X 51 59 54 dX7_readNumber_51 rfl rfl ?_ ?_
  · refine gx_bipush X 59 61 (10) dX7_readNumber_59 rfl cb_10 ?_
    refine gx_iload X 61 63 4 dX7_readNumber_61 rfl rfl ?_
    refine gx_imul X 63 64 dX7_readNumber_63 rfl ?_
    refine gx_aload_n X 64 65 0 dX7_readNumber_64 rfl rfl rfl ?_
    refine gx_getR X 65 68 0 (by decide) rfl rfl fg_X7_20 dX7_readNumber_65 rfl ?_
    refine gx_aload_n X 68 69 0 dX7_readNumber_68 rfl rfl rfl ?_
    refine gx_getI X 69 72 0 (by decide) rfl rfl fg_X7_158 dX7_readNumber_69 rfl ?_
    refine gx_iaload X 72 73 3 (by decide) rfl dX7_readNumber_72 rfl ?_
    refine gx_iadd X 73 74 dX7_readNumber_73 rfl ?_
    refine gx_bipush X 74 76 (48) dX7_readNumber_74 rfl cb_48 ?_
    refine gx_isub X 76 77 dX7_readNumber_76 rfl ?_
    refine gx_sub [0, 1, 2, 3] rfl ?_
    exact hk_77 (((10 * x10) + (m13 3 (m13 0 6).toNatClampNeg)) - 48) m13
  refine gx_iload X 54 56 4 dX7_readNumber_54 rfl rfl ?_
  refine gx_goto X 56 77 dX7_readNumber_56 rfl ?_
  refine gx_sub [0, 1, 2, 3] rfl ?_
  exact hk_77 x10 m13
def fX7_letterOf (a0 : Int32) (μ : Mm) : Aa := mm_lt (fun (x1 : Int32) (m2 : Mm) => some (x1, m2)) (fun (k_51 : Int32 → Mm → Aa) => if a0 = 0 then (k_51 103 μ) else (if a0 = 1 then (k_51 99 μ) else (if a0 = 2 then (k_51 119 μ) else (if a0 = 3 then (k_51 110 μ) else (if a0 = 4 then (k_51 114 μ) else (k_51 102 μ))))))
abbrev rX7_letterOf : Room := { frames := 0, cells := 0, slots := 0, locals := 0 }
set_option maxRecDepth 100000 in
set_option maxHeartbeats 8000000 in
theorem tX7_letterOf {l : Launch} {D : va_G} {cA : Nat → ClassId} {adr : Nat → Nat} (hJ : mm_J adr NM) (a0 : Int32) (μ : Mm) : mm_Mi l D cA adr sM NM mm_SM yX7_letterOf cX7_letterOf 1 (some .int) rX7_letterOf [.int a0] μ (fX7_letterOf a0 μ) := by
  refine mm_entryi hJ mm_okM (by decide) (Nat.le_of_ble_eq_true rfl) ⟨rfl, rfl⟩ (fun p e s m below meth c X hr => ?_)
  generalize ([.int a0] : List Value).toArray = args at X ⊢
  refine gx_lv (lv' := [(0, .int a0)]) rfl ?_
  unfold fX7_letterOf
  refine gx_iload_n X 0 1 0 dX7_letterOf_0 rfl rfl rfl ?_
  refine gx_jn (fun (k : Int32 → Mm → Aa) => ∀ (x1 : Int32) (m2 : Mm), mm_G p l e rX7_letterOf s m args below meth c 1 D cA adr sM NM (mm_Qi D cA adr sM NM) m2 51 [] [.int x1] (k x1 m2)) ?_ (fun k_51 hk_51 => ?_)
  · intro x1 m2
    exact gx_iret X 51 hr dX7_letterOf_51
  refine gx_if_ne X 1 9 4 dX7_letterOf_1 rfl rfl ?_ ?_
  · refine gx_iload_n X 9 10 0 dX7_letterOf_9 rfl rfl rfl ?_
    refine gx_iconst X 10 11 (1) dX7_letterOf_10 rfl ci_1 ?_
    refine gx_icmp_ne X 11 19 14 dX7_letterOf_11 rfl rfl ?_ ?_
    · refine gx_iload_n X 19 20 0 dX7_letterOf_19 rfl rfl rfl ?_
      refine gx_iconst X 20 21 (2) dX7_letterOf_20 rfl ci_2 ?_
      refine gx_icmp_ne X 21 29 24 dX7_letterOf_21 rfl rfl ?_ ?_
      · refine gx_iload_n X 29 30 0 dX7_letterOf_29 rfl rfl rfl ?_
        refine gx_iconst X 30 31 (3) dX7_letterOf_30 rfl ci_3 ?_
        refine gx_icmp_ne X 31 39 34 dX7_letterOf_31 rfl rfl ?_ ?_
        · refine gx_iload_n X 39 40 0 dX7_letterOf_39 rfl rfl rfl ?_
          refine gx_iconst X 40 41 (4) dX7_letterOf_40 rfl ci_4 ?_
          refine gx_icmp_ne X 41 49 44 dX7_letterOf_41 rfl rfl ?_ ?_
          · refine gx_bipush X 49 51 (102) dX7_letterOf_49 rfl cb_102 ?_
            refine gx_sub [] rfl ?_
            exact hk_51 102 μ
          refine gx_bipush X 44 46 (114) dX7_letterOf_44 rfl cb_114 ?_
          refine gx_goto X 46 51 dX7_letterOf_46 rfl ?_
          refine gx_sub [] rfl ?_
          exact hk_51 114 μ
        refine gx_bipush X 34 36 (110) dX7_letterOf_34 rfl cb_110 ?_
        refine gx_goto X 36 51 dX7_letterOf_36 rfl ?_
        refine gx_sub [] rfl ?_
        exact hk_51 110 μ
      refine gx_bipush X 24 26 (119) dX7_letterOf_24 rfl cb_119 ?_
      refine gx_goto X 26 51 dX7_letterOf_26 rfl ?_
      refine gx_sub [] rfl ?_
      exact hk_51 119 μ
    refine gx_bipush X 14 16 (99) dX7_letterOf_14 rfl cb_99 ?_
    refine gx_goto X 16 51 dX7_letterOf_16 rfl ?_
    refine gx_sub [] rfl ?_
    exact hk_51 99 μ
  refine gx_bipush X 4 6 (103) dX7_letterOf_4 rfl cb_103 ?_
  refine gx_goto X 6 51 dX7_letterOf_6 rfl ?_
  refine gx_sub [] rfl ?_
  exact hk_51 103 μ
def fX7_readLaws_L12 (k_73 : Mm → Aa) (k_91 : Mm → Aa) (rec_12 : Int32 → Mm → Aa) (x11 : Int32) (m12 : Mm) : Aa := if 6 ≤ x11 then (k_91 m12) else (mm_ck x11 30 (mm_lt (mm_wr m12 4 x11.toNatClampNeg ((-1))) (fun (m13 : Mm) => mm_cl (fX7_nextByte m13) (fun (x14 : Int32) (m15 : Mm) => mm_cl (fX7_letterOf x11 m15) (fun (x16 : Int32) (m17 : Mm) => mm_lt (fun (m18 : Mm) => mm_lt (x11 + 1) (fun (x19 : Int32) => rec_12 x19 m18)) (fun (k_85 : Mm → Aa) => if x14 = x16 then (mm_lt (mm_wr m17 0 6 ((m17 0 6) + 1)) (fun (m20 : Mm) => mm_cl (fX7_leastOf x11 m20) (fun (x21 : Int32) (m22 : Mm) => mm_cl (fX7_mostOf x11 m22) (fun (x23 : Int32) (m24 : Mm) => mm_cl (fX7_readNumber x21 x23 m24) (fun (x25 : Int32) (m26 : Mm) => mm_ck x11 30 (mm_lt (mm_wr m26 4 x11.toNatClampNeg x25) (fun (m27 : Mm) => mm_ck x11 30 (if 0 ≤ (m27 4 x11.toNatClampNeg) then (mm_lt (mm_wr m27 0 7 ((m27 0 7) + 1)) (fun (m28 : Mm) => k_85 m28)) else (k_73 m27))))))))) else (k_85 m17)))))))
def fX7_readLaws (μ : Mm) : Aa := mm_lt (mm_wr μ 0 6 0) (fun (m1 : Mm) => mm_lt (mm_wr m1 0 7 0) (fun (m2 : Mm) => mm_lt 0 (fun (x3 : Int32) => mm_lt (fun (m4 : Mm) => mm_lt (fun (x5 : Int32) (m6 : Mm) => mm_bo x5 (some (x5, m6))) (fun (k_110 : Int32 → Mm → Aa) => mm_lt (fun (m7 : Mm) => k_110 0 m7) (fun (k_109 : Mm → Aa) => if (m4 0 7) ≤ 0 then (k_109 m4) else (mm_cl (fX7_nextByte m4) (fun (x8 : Int32) (m9 : Mm) => if 0 ≤ x8 then (k_109 m9) else (k_110 1 m9)))))) (fun (k_91 : Mm → Aa) => mm_lt (fun (m10 : Mm) => mm_bo 0 (some (0, m10))) (fun (k_73 : Mm → Aa) => mm_lk (fun (_ : Int32) (_ : Mm) => (none : Aa)) (fX7_readLaws_L12 k_73 k_91) mm_fu x3 m2)))))
abbrev rX7_readLaws : Room := { frames := 2, cells := 0, slots := 0, locals := 49 }
set_option maxRecDepth 100000 in
set_option maxHeartbeats 8000000 in
theorem tX7_readLaws {l : Launch} {D : va_G} {cA : Nat → ClassId} {adr : Nat → Nat} (hJ : mm_J adr NM) (μ : Mm) : mm_Mi l D cA adr sM NM mm_SM yX7_readLaws cX7_readLaws 2 (some .boolean) rX7_readLaws [.ref (adr 0)] μ (fX7_readLaws μ) := by
  refine mm_entryi hJ mm_okM (by decide) (Nat.le_of_ble_eq_true rfl) ⟨rfl, rfl⟩ (fun p e s m below meth c X hr => ?_)
  generalize ([.ref (adr 0)] : List Value).toArray = args at X ⊢
  refine gx_lv (lv' := [(0, .ref (adr 0))]) rfl ?_
  unfold fX7_readLaws
  refine gx_aload_n X 0 1 0 dX7_readLaws_0 rfl rfl rfl ?_
  refine gx_iconst X 1 2 (0) dX7_readLaws_1 rfl ci_0 ?_
  refine gx_putI X 2 5 0 (by decide) rfl rfl fp_X7_158 dX7_readLaws_2 rfl (fun m1 => ?_)
  refine gx_aload_n X 5 6 0 dX7_readLaws_5 rfl rfl rfl ?_
  refine gx_iconst X 6 7 (0) dX7_readLaws_6 rfl ci_0 ?_
  refine gx_putI X 7 10 0 (by decide) rfl rfl fp_X7_169 dX7_readLaws_7 rfl (fun m2 => ?_)
  refine gx_iconst X 10 11 (0) dX7_readLaws_10 rfl ci_0 ?_
  refine gx_istore_n X 11 12 (fun x3 => [(1, .int x3), (0, .ref (adr 0))]) dX7_readLaws_11 rfl rfl (by decide) (fun _ => rfl) (fun x3 => ?_)
  refine gx_jn (fun (k : Mm → Aa) => ∀ (m4 : Mm), mm_G p l e rX7_readLaws s m args below meth c 2 D cA adr sM NM (mm_Qi D cA adr sM NM) m4 91 [(0, .ref (adr 0))] [] (k m4)) ?_ (fun k_91 hk_91 => ?_)
  · intro m4
    refine gx_aload_n X 91 92 0 dX7_readLaws_91 rfl rfl rfl ?_
    refine gx_getI X 92 95 0 (by decide) rfl rfl fg_X7_169 dX7_readLaws_92 rfl ?_
    refine gx_jn (fun (k : Int32 → Mm → Aa) => ∀ (x5 : Int32) (m6 : Mm), mm_G p l e rX7_readLaws s m args below meth c 2 D cA adr sM NM (mm_Qi D cA adr sM NM) m6 110 [] [.int x5] (k x5 m6)) ?_ (fun k_110 hk_110 => ?_)
    · intro x5 m6
      exact gx_zret X 110 hr dX7_readLaws_110
    refine gx_jn (fun (k : Mm → Aa) => ∀ (m7 : Mm), mm_G p l e rX7_readLaws s m args below meth c 2 D cA adr sM NM (mm_Qi D cA adr sM NM) m7 109 [] [] (k m7)) ?_ (fun k_109 hk_109 => ?_)
    · intro m7
      refine gx_iconst X 109 110 (0) dX7_readLaws_109 rfl ci_0 ?_
      exact hk_110 0 m7
    refine gx_if_le X 95 109 98 dX7_readLaws_95 rfl rfl ?_ ?_
    · refine gx_sub [] rfl ?_
      exact hk_109 m4
    refine gx_aload_n X 98 99 0 dX7_readLaws_98 rfl rfl rfl ?_
    refine gx_calliV X 99 102 0 (rest := []) (As := []) (tX7_nextByte hJ m4) (by decide) rfl rfl wc_X7_nextByte wl_X7_161 wi_X7_nextByte ws_X7_nextByte wn_X7 rfl hd_X7_nextByte ⟨Nat.le_of_ble_eq_true rfl, Nat.le_of_ble_eq_true rfl⟩ ⟨rfl, rfl⟩ rfl rfl (Nat.le_of_ble_eq_true rfl) dX7_readLaws_99 rfl (fun x8 m9 => ?_)
    refine gx_if_ge X 102 109 105 dX7_readLaws_102 rfl rfl ?_ ?_
    · refine gx_sub [] rfl ?_
      exact hk_109 m9
    refine gx_iconst X 105 106 (1) dX7_readLaws_105 rfl ci_1 ?_
    refine gx_goto X 106 110 dX7_readLaws_106 rfl ?_
    refine gx_sub [] rfl ?_
    exact hk_110 1 m9
  refine gx_jn (fun (k : Mm → Aa) => ∀ (m10 : Mm), mm_G p l e rX7_readLaws s m args below meth c 2 D cA adr sM NM (mm_Qi D cA adr sM NM) m10 73 [] [] (k m10)) ?_ (fun k_73 hk_73 => ?_)
  · intro m10
    refine gx_iconst X 73 74 (0) dX7_readLaws_73 rfl ci_0 ?_
    exact gx_zret X 74 hr dX7_readLaws_74
  refine gx_sub [1, 0] rfl ?_
  refine mm_lk_ind (fun (rec : Int32 → Mm → Aa) => ∀ (x11 : Int32) (m12 : Mm), mm_G p l e rX7_readLaws s m args below meth c 2 D cA adr sM NM (mm_Qi D cA adr sM NM) m12 12 [(0, .ref (adr 0)), (1, .int x11)] [] (rec x11 m12)) (fun _ _ => gx_none) (fun rec_12 hr_12 x11 m12 => ?_) mm_fu x3 m2
  unfold fX7_readLaws_L12
  refine gx_iload_n X 12 13 1 dX7_readLaws_12 rfl rfl rfl ?_
  refine gx_bipush X 13 15 (6) dX7_readLaws_13 rfl cb_6 ?_
  refine gx_icmp_ge X 15 91 18 dX7_readLaws_15 rfl rfl ?_ ?_
  · refine gx_sub [0] rfl ?_
    exact hk_91 m12
  refine gx_aload_n X 18 19 0 dX7_readLaws_18 rfl rfl rfl ?_
  refine gx_getR X 19 22 0 (by decide) rfl rfl fg_X7_23 dX7_readLaws_19 rfl ?_
  refine gx_iload_n X 22 23 1 dX7_readLaws_22 rfl rfl rfl ?_
  refine gx_iconst X 23 24 (-1) dX7_readLaws_23 rfl ci_m1 ?_
  refine gx_iastore X 24 25 4 (by decide) rfl dX7_readLaws_24 rfl (fun m13 => ?_)
  refine gx_aload_n X 25 26 0 dX7_readLaws_25 rfl rfl rfl ?_
  refine gx_calliV X 26 29 0 (rest := []) (As := []) (tX7_nextByte hJ m13) (by decide) rfl rfl wc_X7_nextByte wl_X7_161 wi_X7_nextByte ws_X7_nextByte wn_X7 rfl hd_X7_nextByte ⟨Nat.le_of_ble_eq_true rfl, Nat.le_of_ble_eq_true rfl⟩ ⟨rfl, rfl⟩ rfl rfl (Nat.le_of_ble_eq_true rfl) dX7_readLaws_26 rfl (fun x14 m15 => ?_)
  refine gx_iload_n X 29 30 1 dX7_readLaws_29 rfl rfl rfl ?_
  refine gx_calliS X 30 33 (rest := [.int x14]) (As := [.int x11]) (tX7_letterOf hJ x11 m15) wc_X7_letterOf wl_X7_172 wt_X7_letterOf wn_X7 hd_X7_letterOf ⟨Nat.le_of_ble_eq_true rfl, Nat.le_of_ble_eq_true rfl⟩ ⟨rfl, rfl⟩ rfl rfl (Nat.le_of_ble_eq_true rfl) dX7_readLaws_30 rfl (fun x16 m17 => ?_)
  refine gx_jn (fun (k : Mm → Aa) => ∀ (m18 : Mm), mm_G p l e rX7_readLaws s m args below meth c 2 D cA adr sM NM (mm_Qi D cA adr sM NM) m18 85 [(0, .ref (adr 0)), (1, .int x11)] [] (k m18)) ?_ (fun k_85 hk_85 => ?_)
  · intro m18
    refine gx_iinc X 85 88 1 (1) (fun x19 => [(1, .int x19), (0, .ref (adr 0))]) dX7_readLaws_85 rfl rfl ci_1 (by decide) (fun _ => rfl) (fun x19 => ?_)
    refine gx_goto X 88 12 dX7_readLaws_88 rfl ?_
    refine gx_sub [1, 0] rfl ?_
    exact hr_12 x19 m18
  refine gx_icmp_ne X 33 85 36 dX7_readLaws_33 rfl rfl ?_ ?_
  · exact hk_85 m17
  refine gx_aload_n X 36 37 0 dX7_readLaws_36 rfl rfl rfl ?_
  refine gx_dup X 37 38 dX7_readLaws_37 rfl rfl ?_
  refine gx_getI X 38 41 0 (by decide) rfl rfl fg_X7_158 dX7_readLaws_38 rfl ?_
  refine gx_iconst X 41 42 (1) dX7_readLaws_41 rfl ci_1 ?_
  refine gx_iadd X 42 43 dX7_readLaws_42 rfl ?_
  refine gx_putI X 43 46 0 (by decide) rfl rfl fp_X7_158 dX7_readLaws_43 rfl (fun m20 => ?_)
  refine gx_aload_n X 46 47 0 dX7_readLaws_46 rfl rfl rfl ?_
  refine gx_getR X 47 50 0 (by decide) rfl rfl fg_X7_23 dX7_readLaws_47 rfl ?_
  refine gx_iload_n X 50 51 1 dX7_readLaws_50 rfl rfl rfl ?_
  refine gx_aload_n X 51 52 0 dX7_readLaws_51 rfl rfl rfl ?_
  refine gx_iload_n X 52 53 1 dX7_readLaws_52 rfl rfl rfl ?_
  refine gx_calliS X 53 56 (rest := [.ref (adr 0), .int x11, .ref (adr 4)]) (As := [.int x11]) (tX7_leastOf hJ x11 m20) wc_X7_leastOf wl_X7_109 wt_X7_leastOf wn_X7 hd_X7_leastOf ⟨Nat.le_of_ble_eq_true rfl, Nat.le_of_ble_eq_true rfl⟩ ⟨rfl, rfl⟩ rfl rfl (Nat.le_of_ble_eq_true rfl) dX7_readLaws_53 rfl (fun x21 m22 => ?_)
  refine gx_iload_n X 56 57 1 dX7_readLaws_56 rfl rfl rfl ?_
  refine gx_calliS X 57 60 (rest := [.int x21, .ref (adr 0), .int x11, .ref (adr 4)]) (As := [.int x11]) (tX7_mostOf hJ x11 m22) wc_X7_mostOf wl_X7_113 wt_X7_mostOf wn_X7 hd_X7_mostOf ⟨Nat.le_of_ble_eq_true rfl, Nat.le_of_ble_eq_true rfl⟩ ⟨rfl, rfl⟩ rfl rfl (Nat.le_of_ble_eq_true rfl) dX7_readLaws_57 rfl (fun x23 m24 => ?_)
  refine gx_calliV X 60 63 0 (rest := [.int x11, .ref (adr 4)]) (As := [.int x21, .int x23]) (tX7_readNumber hJ x21 x23 m24) (by decide) rfl rfl wc_X7_readNumber wl_X7_175 wi_X7_readNumber ws_X7_readNumber wn_X7 rfl hd_X7_readNumber ⟨Nat.le_of_ble_eq_true rfl, Nat.le_of_ble_eq_true rfl⟩ ⟨rfl, rfl⟩ rfl rfl (Nat.le_of_ble_eq_true rfl) dX7_readLaws_60 rfl (fun x25 m26 => ?_)
  refine gx_iastore X 63 64 4 (by decide) rfl dX7_readLaws_63 rfl (fun m27 => ?_)
  refine gx_aload_n X 64 65 0 dX7_readLaws_64 rfl rfl rfl ?_
  refine gx_getR X 65 68 0 (by decide) rfl rfl fg_X7_23 dX7_readLaws_65 rfl ?_
  refine gx_iload_n X 68 69 1 dX7_readLaws_68 rfl rfl rfl ?_
  refine gx_iaload X 69 70 4 (by decide) rfl dX7_readLaws_69 rfl ?_
  refine gx_if_ge X 70 75 73 dX7_readLaws_70 rfl rfl ?_ ?_
  · refine gx_aload_n X 75 76 0 dX7_readLaws_75 rfl rfl rfl ?_
    refine gx_dup X 76 77 dX7_readLaws_76 rfl rfl ?_
    refine gx_getI X 77 80 0 (by decide) rfl rfl fg_X7_169 dX7_readLaws_77 rfl ?_
    refine gx_iconst X 80 81 (1) dX7_readLaws_80 rfl ci_1 ?_
    refine gx_iadd X 81 82 dX7_readLaws_81 rfl ?_
    refine gx_putI X 82 85 0 (by decide) rfl rfl fp_X7_169 dX7_readLaws_82 rfl (fun m28 => ?_)
    exact hk_85 m28
  refine gx_sub [] rfl ?_
  exact hk_73 m27
def fX7_laws_L33 (k_75 : Mm → Aa) (rec_33 : Int32 → Mm → Aa) (x8 : Int32) (m9 : Mm) : Aa := if 6 ≤ x8 then (k_75 m9) else (mm_ck x8 30 (mm_lt (fun (x10 : Int32) (m11 : Mm) => mm_ck x8 6 (mm_lt (mm_wr m11 2 x8.toNatClampNeg x10) (fun (m12 : Mm) => mm_lt (x8 + 1) (fun (x13 : Int32) => rec_33 x13 m12)))) (fun (k_68 : Int32 → Mm → Aa) => if 0 ≤ (m9 4 x8.toNatClampNeg) then (mm_ck x8 30 (k_68 (m9 4 x8.toNatClampNeg) m9)) else (mm_ck x8 6 (k_68 (m9 2 x8.toNatClampNeg) m9)))))
def fX7_laws (μ : Mm) : Aa := mm_cl (fX7_readLaws μ) (fun (x1 : Int32) (m2 : Mm) => mm_lt x1 (fun (x3 : Int32) => mm_lt (fun (m4 : Mm) => mm_lt (mm_wr m4 0 5 0) (fun (m5 : Mm) => if x3 = 0 then (some (((-20)) - (m5 0 6), m5)) else (mm_lt 0 (fun (x6 : Int32) => mm_lt (fun (m7 : Mm) => some (m7 0 7, m7)) (fun (k_75 : Mm → Aa) => mm_lk (fun (_ : Int32) (_ : Mm) => (none : Aa)) (fX7_laws_L33 k_75) mm_fu x6 m5))))) (fun (k_14 : Mm → Aa) => if x3 = 0 then (mm_cl (fX7_nextByte m2) (fun (x14 : Int32) (m15 : Mm) => k_14 m15)) else (k_14 m2))))
abbrev rX7_laws : Room := { frames := 3, cells := 0, slots := 0, locals := 70 }
set_option maxRecDepth 100000 in
set_option maxHeartbeats 8000000 in
theorem tX7_laws {l : Launch} {D : va_G} {cA : Nat → ClassId} {adr : Nat → Nat} (hJ : mm_J adr NM) (μ : Mm) : mm_Mi l D cA adr sM NM mm_SM yX7_laws cX7_laws 3 (some .int) rX7_laws [.ref (adr 0)] μ (fX7_laws μ) := by
  refine mm_entryi hJ mm_okM (by decide) (Nat.le_of_ble_eq_true rfl) ⟨rfl, rfl⟩ (fun p e s m below meth c X hr => ?_)
  generalize ([.ref (adr 0)] : List Value).toArray = args at X ⊢
  refine gx_lv (lv' := [(0, .ref (adr 0))]) rfl ?_
  unfold fX7_laws
  refine gx_aload_n X 0 1 0 dX7_laws_0 rfl rfl rfl ?_
  refine gx_calliV X 1 4 0 (rest := []) (As := []) (tX7_readLaws hJ μ) (by decide) rfl rfl wc_X7_readLaws wl_X7_178 wi_X7_readLaws ws_X7_readLaws wn_X7 rfl hd_X7_readLaws ⟨Nat.le_of_ble_eq_true rfl, Nat.le_of_ble_eq_true rfl⟩ ⟨rfl, rfl⟩ rfl rfl (Nat.le_of_ble_eq_true rfl) dX7_laws_1 rfl (fun x1 m2 => ?_)
  refine gx_istore_n X 4 5 (fun x3 => [(1, .int x3), (0, .ref (adr 0))]) dX7_laws_4 rfl rfl (by decide) (fun _ => rfl) (fun x3 => ?_)
  refine gx_iload_n X 5 6 0 dX7_laws_5 rfl rfl rfl ?_
  refine gx_jn (fun (k : Mm → Aa) => ∀ (m4 : Mm), mm_G p l e rX7_laws s m args below meth c 3 D cA adr sM NM (mm_Qi D cA adr sM NM) m4 14 [(0, .ref (adr 0)), (1, .int x3)] [] (k m4)) ?_ (fun k_14 hk_14 => ?_)
  · intro m4
    refine gx_aload_n X 14 15 0 dX7_laws_14 rfl rfl rfl ?_
    refine gx_iconst X 15 16 (0) dX7_laws_15 rfl ci_0 ?_
    refine gx_putI X 16 19 0 (by decide) rfl rfl fp_X7_155 dX7_laws_16 rfl (fun m5 => ?_)
    refine gx_iload_n X 19 20 1 dX7_laws_19 rfl rfl rfl ?_
    refine gx_if_ne X 20 31 23 dX7_laws_20 rfl rfl ?_ ?_
    · refine gx_iconst X 31 32 (0) dX7_laws_31 rfl ci_0 ?_
      refine gx_istore_n X 32 33 (fun x6 => [(2, .int x6), (0, .ref (adr 0)), (1, .int x3)]) dX7_laws_32 rfl rfl (by decide) (fun _ => rfl) (fun x6 => ?_)
      refine gx_jn (fun (k : Mm → Aa) => ∀ (m7 : Mm), mm_G p l e rX7_laws s m args below meth c 3 D cA adr sM NM (mm_Qi D cA adr sM NM) m7 75 [(0, .ref (adr 0))] [] (k m7)) ?_ (fun k_75 hk_75 => ?_)
      · intro m7
        refine gx_aload_n X 75 76 0 dX7_laws_75 rfl rfl rfl ?_
        refine gx_getI X 76 79 0 (by decide) rfl rfl fg_X7_169 dX7_laws_76 rfl ?_
        exact gx_iret X 79 hr dX7_laws_79
      refine gx_sub [1, 0] rfl ?_
      refine mm_lk_ind (fun (rec : Int32 → Mm → Aa) => ∀ (x8 : Int32) (m9 : Mm), mm_G p l e rX7_laws s m args below meth c 3 D cA adr sM NM (mm_Qi D cA adr sM NM) m9 33 [(0, .ref (adr 0)), (2, .int x8)] [] (rec x8 m9)) (fun _ _ => gx_none) (fun rec_33 hr_33 x8 m9 => ?_) mm_fu x6 m5
      unfold fX7_laws_L33
      refine gx_iload_n X 33 34 1 dX7_laws_33 rfl rfl rfl ?_
      refine gx_bipush X 34 36 (6) dX7_laws_34 rfl cb_6 ?_
      refine gx_icmp_ge X 36 75 39 dX7_laws_36 rfl rfl ?_ ?_
      · refine gx_sub [0] rfl ?_
        exact hk_75 m9
      refine gx_aload_n X 39 40 0 dX7_laws_39 rfl rfl rfl ?_
      refine gx_getR X 40 43 0 (by decide) rfl rfl fg_X7_13 dX7_laws_40 rfl ?_
      refine gx_iload_n X 43 44 1 dX7_laws_43 rfl rfl rfl ?_
      refine gx_aload_n X 44 45 0 dX7_laws_44 rfl rfl rfl ?_
      refine gx_getR X 45 48 0 (by decide) rfl rfl fg_X7_23 dX7_laws_45 rfl ?_
      refine gx_iload_n X 48 49 1 dX7_laws_48 rfl rfl rfl ?_
      refine gx_iaload X 49 50 4 (by decide) rfl dX7_laws_49 rfl ?_
      refine gx_jn (fun (k : Int32 → Mm → Aa) => ∀ (x10 : Int32) (m11 : Mm), mm_G p l e rX7_laws s m args below meth c 3 D cA adr sM NM (mm_Qi D cA adr sM NM) m11 68 [(0, .ref (adr 0)), (2, .int x8)] [.int x10, .int x8, .ref (adr 2)] (k x10 m11)) ?_ (fun k_68 hk_68 => ?_)
      · intro x10 m11
        refine gx_iastore X 68 69 2 (by decide) rfl dX7_laws_68 rfl (fun m12 => ?_)
        refine gx_iinc X 69 72 1 (1) (fun x13 => [(2, .int x13), (0, .ref (adr 0))]) dX7_laws_69 rfl rfl ci_1 (by decide) (fun _ => rfl) (fun x13 => ?_)
        refine gx_goto X 72 33 dX7_laws_72 rfl ?_
        refine gx_sub [1, 0] rfl ?_
        exact hr_33 x13 m12
      refine gx_if_ge X 50 62 53 dX7_laws_50 rfl rfl ?_ ?_
      · refine gx_aload_n X 62 63 0 dX7_laws_62 rfl rfl rfl ?_
        refine gx_getR X 63 66 0 (by decide) rfl rfl fg_X7_23 dX7_laws_63 rfl ?_
        refine gx_iload_n X 66 67 1 dX7_laws_66 rfl rfl rfl ?_
        refine gx_iaload X 67 68 4 (by decide) rfl dX7_laws_67 rfl ?_
        exact hk_68 (m9 4 x8.toNatClampNeg) m9
      refine gx_aload_n X 53 54 0 dX7_laws_53 rfl rfl rfl ?_
      refine gx_getR X 54 57 0 (by decide) rfl rfl fg_X7_13 dX7_laws_54 rfl ?_
      refine gx_iload_n X 57 58 1 dX7_laws_57 rfl rfl rfl ?_
      refine gx_iaload X 58 59 2 (by decide) rfl dX7_laws_58 rfl ?_
      refine gx_goto X 59 68 dX7_laws_59 rfl ?_
      exact hk_68 (m9 2 x8.toNatClampNeg) m9
    refine gx_bipush X 23 25 (-20) dX7_laws_23 rfl cb_m20 ?_
    refine gx_aload_n X 25 26 0 dX7_laws_25 rfl rfl rfl ?_
    refine gx_getI X 26 29 0 (by decide) rfl rfl fg_X7_158 dX7_laws_26 rfl ?_
    refine gx_isub X 29 30 dX7_laws_29 rfl ?_
    exact gx_iret X 30 hr dX7_laws_30
  refine gx_if_ne X 6 14 9 dX7_laws_6 rfl rfl ?_ ?_
  · refine gx_sub [1, 0] rfl ?_
    exact hk_14 m2
  refine gx_aload_n X 9 10 1 dX7_laws_9 rfl rfl rfl ?_
  refine gx_calliV X 10 13 0 (rest := []) (As := []) (tX7_nextByte hJ m2) (by decide) rfl rfl wc_X7_nextByte wl_X7_161 wi_X7_nextByte ws_X7_nextByte wn_X7 rfl hd_X7_nextByte ⟨Nat.le_of_ble_eq_true rfl, Nat.le_of_ble_eq_true rfl⟩ ⟨rfl, rfl⟩ rfl rfl (Nat.le_of_ble_eq_true rfl) dX7_laws_10 rfl (fun x14 m15 => ?_)
  refine gx_pop X 13 14 dX7_laws_13 rfl rfl ?_
  refine gx_sub [1, 0] rfl ?_
  exact hk_14 m15
def fX7_readPerson (a1 : Int32) (μ : Mm) : Aa := mm_cl (fX7_readNumber 0 499 μ) (fun (x1 : Int32) (m2 : Mm) => mm_ck a1 30 (mm_lt (mm_wr m2 4 a1.toNatClampNeg x1) (fun (m3 : Mm) => mm_ck a1 30 (if 0 ≤ (m3 4 a1.toNatClampNeg) then (mm_cl (fX7_nextByte m3) (fun (x4 : Int32) (m5 : Mm) => mm_lt x4 (fun (x6 : Int32) => mm_lt (fun (m7 : Mm) => mm_lt (fun (x8 : Int32) (m9 : Mm) => mm_ck (a1 + 1) 30 (mm_lt (mm_wr m9 4 (a1 + 1).toNatClampNeg x8) (fun (m10 : Mm) => mm_lt (mm_wr m10 0 6 ((m10 0 6) + 1)) (fun (m11 : Mm) => mm_cl (fX7_nextByte m11) (fun (x12 : Int32) (m13 : Mm) => mm_lt x12 (fun (x14 : Int32) => mm_lt (fun (m15 : Mm) => mm_lt (fun (x16 : Int32) (m17 : Mm) => mm_ck (a1 + 2) 30 (mm_lt (mm_wr m17 4 (a1 + 2).toNatClampNeg x16) (fun (m18 : Mm) => mm_lt (mm_wr m18 0 6 ((m18 0 6) + 1)) (fun (m19 : Mm) => mm_cl (fX7_readNumber 1 20 m19) (fun (x20 : Int32) (m21 : Mm) => mm_ck (a1 + 3) 30 (mm_lt (mm_wr m21 4 (a1 + 3).toNatClampNeg x20) (fun (m22 : Mm) => mm_ck (a1 + 3) 30 (if 0 ≤ (m22 4 (a1 + 3).toNatClampNeg) then (mm_ck (a1 + 4) 30 (mm_lt (mm_wr m22 4 (a1 + 4).toNatClampNeg 1) (fun (m23 : Mm) => mm_cl (fX7_nextByte m23) (fun (x24 : Int32) (m25 : Mm) => mm_lt (fun (m26 : Mm) => mm_bo 1 (some (1, m26))) (fun (k_255 : Mm → Aa) => if x24 = 116 then (mm_lt (mm_wr m25 0 6 ((m25 0 6) + 1)) (fun (m27 : Mm) => mm_cl (fX7_nextByte m27) (fun (x28 : Int32) (m29 : Mm) => mm_ck (a1 + 4) 30 (mm_lt (mm_wr m29 4 (a1 + 4).toNatClampNeg (x28 - 48)) (fun (m30 : Mm) => mm_ck (a1 + 4) 30 (mm_cl (fX7_in ((m30 4 (a1 + 4).toNatClampNeg).toInt64) 1 6 m30) (fun (x31 : Int32) (m32 : Mm) => if x31 = 0 then (mm_bo 0 (some (0, m32))) else (mm_lt (mm_wr m32 0 6 ((m32 0 6) + 1)) (fun (m33 : Mm) => k_255 m33))))))))) else (k_255 m25)))))) else (mm_bo 0 (some (0, m22))))))))))) (fun (k_142 : Int32 → Mm → Aa) => if x14 = 119 then (k_142 0 m15) else (if x14 = 114 then (k_142 1 m15) else (if x14 = 108 then (k_142 2 m15) else (k_142 3 m15))))) (fun (k_104 : Mm → Aa) => if x14 = 119 then (k_104 m13) else (if x14 = 114 then (k_104 m13) else (if x14 = 108 then (k_104 m13) else (if x14 = 115 then (k_104 m13) else (mm_bo 0 (some (0, m13))))))))))))) (fun (k_62 : Int32 → Mm → Aa) => if x6 = 110 then (k_62 0 m7) else (k_62 1 m7))) (fun (k_44 : Mm → Aa) => if x6 = 110 then (k_44 m5) else (if x6 = 115 then (k_44 m5) else (mm_bo 0 (some (0, m5)))))))) else (mm_bo 0 (some (0, m3)))))))
abbrev rX7_readPerson : Room := { frames := 2, cells := 0, slots := 0, locals := 49 }
set_option maxRecDepth 100000 in
set_option maxHeartbeats 8000000 in
theorem tX7_readPerson {l : Launch} {D : va_G} {cA : Nat → ClassId} {adr : Nat → Nat} (hJ : mm_J adr NM) (a1 : Int32) (μ : Mm) : mm_Mi l D cA adr sM NM mm_SM yX7_readPerson cX7_readPerson 3 (some .boolean) rX7_readPerson [.ref (adr 0), .int a1] μ (fX7_readPerson a1 μ) := by
  refine mm_entryi hJ mm_okM (by decide) (Nat.le_of_ble_eq_true rfl) ⟨rfl, rfl⟩ (fun p e s m below meth c X hr => ?_)
  generalize ([.ref (adr 0), .int a1] : List Value).toArray = args at X ⊢
  refine gx_lv (lv' := [(0, .ref (adr 0)), (1, .int a1)]) rfl ?_
  unfold fX7_readPerson
  refine gx_aload_n X 0 1 0 dX7_readPerson_0 rfl rfl rfl ?_
  refine gx_getR X 1 4 0 (by decide) rfl rfl fg_X7_23 dX7_readPerson_1 rfl ?_
  refine gx_iload_n X 4 5 1 dX7_readPerson_4 rfl rfl rfl ?_
  refine gx_aload_n X 5 6 0 dX7_readPerson_5 rfl rfl rfl ?_
  refine gx_iconst X 6 7 (0) dX7_readPerson_6 rfl ci_0 ?_
  refine gx_sipush X 7 10 (499) dX7_readPerson_7 rfl cs_499 ?_
  refine gx_calliV X 10 13 0 (rest := [.int a1, .ref (adr 4)]) (As := [.int 0, .int 499]) (tX7_readNumber hJ 0 499 μ) (by decide) rfl rfl wc_X7_readNumber wl_X7_175 wi_X7_readNumber ws_X7_readNumber wn_X7 rfl hd_X7_readNumber ⟨Nat.le_of_ble_eq_true rfl, Nat.le_of_ble_eq_true rfl⟩ ⟨rfl, rfl⟩ rfl rfl (Nat.le_of_ble_eq_true rfl) dX7_readPerson_10 rfl (fun x1 m2 => ?_)
  refine gx_iastore X 13 14 4 (by decide) rfl dX7_readPerson_13 rfl (fun m3 => ?_)
  refine gx_aload_n X 14 15 0 dX7_readPerson_14 rfl rfl rfl ?_
  refine gx_getR X 15 18 0 (by decide) rfl rfl fg_X7_23 dX7_readPerson_15 rfl ?_
  refine gx_iload_n X 18 19 1 dX7_readPerson_18 rfl rfl rfl ?_
  refine gx_iaload X 19 20 4 (by decide) rfl dX7_readPerson_19 rfl ?_
  refine gx_if_ge X 20 25 23 dX7_readPerson_20 rfl rfl ?_ ?_
  · refine gx_aload_n X 25 26 0 dX7_readPerson_25 rfl rfl rfl ?_
    refine gx_calliV X 26 29 0 (rest := []) (As := []) (tX7_nextByte hJ m3) (by decide) rfl rfl wc_X7_nextByte wl_X7_161 wi_X7_nextByte ws_X7_nextByte wn_X7 rfl hd_X7_nextByte ⟨Nat.le_of_ble_eq_true rfl, Nat.le_of_ble_eq_true rfl⟩ ⟨rfl, rfl⟩ rfl rfl (Nat.le_of_ble_eq_true rfl) dX7_readPerson_26 rfl (fun x4 m5 => ?_)
    refine gx_istore_n X 29 30 (fun x6 => [(2, .int x6), (0, .ref (adr 0)), (1, .int a1)]) dX7_readPerson_29 rfl rfl (by decide) (fun _ => rfl) (fun x6 => ?_)
    refine gx_iload_n X 30 31 0 dX7_readPerson_30 rfl rfl rfl ?_
    refine gx_bipush X 31 33 (110) dX7_readPerson_31 rfl cb_110 ?_
    refine gx_jn (fun (k : Mm → Aa) => ∀ (m7 : Mm), mm_G p l e rX7_readPerson s m args below meth c 3 D cA adr sM NM (mm_Qi D cA adr sM NM) m7 44 [(0, .ref (adr 0)), (1, .int a1), (2, .int x6)] [] (k m7)) ?_ (fun k_44 hk_44 => ?_)
    · intro m7
      refine gx_aload_n X 44 45 0 dX7_readPerson_44 rfl rfl rfl ?_
      refine gx_getR X 45 48 0 (by decide) rfl rfl fg_X7_23 dX7_readPerson_45 rfl ?_
      refine gx_iload_n X 48 49 1 dX7_readPerson_48 rfl rfl rfl ?_
      refine gx_iconst X 49 50 (1) dX7_readPerson_49 rfl ci_1 ?_
      refine gx_iadd X 50 51 dX7_readPerson_50 rfl ?_
      refine gx_iload_n X 51 52 2 dX7_readPerson_51 rfl rfl rfl ?_
      refine gx_bipush X 52 54 (110) dX7_readPerson_52 rfl cb_110 ?_
      refine gx_jn (fun (k : Int32 → Mm → Aa) => ∀ (x8 : Int32) (m9 : Mm), mm_G p l e rX7_readPerson s m args below meth c 3 D cA adr sM NM (mm_Qi D cA adr sM NM) m9 62 [(0, .ref (adr 0)), (1, .int a1)] [.int x8, .int (a1 + 1), .ref (adr 4)] (k x8 m9)) ?_ (fun k_62 hk_62 => ?_)
      · intro x8 m9
        refine gx_iastore X 62 63 4 (by decide) rfl dX7_readPerson_62 rfl (fun m10 => ?_)
        refine gx_aload_n X 63 64 0 dX7_readPerson_63 rfl rfl rfl ?_
        refine gx_dup X 64 65 dX7_readPerson_64 rfl rfl ?_
        refine gx_getI X 65 68 0 (by decide) rfl rfl fg_X7_158 dX7_readPerson_65 rfl ?_
        refine gx_iconst X 68 69 (1) dX7_readPerson_68 rfl ci_1 ?_
        refine gx_iadd X 69 70 dX7_readPerson_69 rfl ?_
        refine gx_putI X 70 73 0 (by decide) rfl rfl fp_X7_158 dX7_readPerson_70 rfl (fun m11 => ?_)
        refine gx_aload_n X 73 74 0 dX7_readPerson_73 rfl rfl rfl ?_
        refine gx_calliV X 74 77 0 (rest := []) (As := []) (tX7_nextByte hJ m11) (by decide) rfl rfl wc_X7_nextByte wl_X7_161 wi_X7_nextByte ws_X7_nextByte wn_X7 rfl hd_X7_nextByte ⟨Nat.le_of_ble_eq_true rfl, Nat.le_of_ble_eq_true rfl⟩ ⟨rfl, rfl⟩ rfl rfl (Nat.le_of_ble_eq_true rfl) dX7_readPerson_74 rfl (fun x12 m13 => ?_)
        refine gx_istore_n X 77 78 (fun x14 => [(2, .int x14), (0, .ref (adr 0)), (1, .int a1)]) dX7_readPerson_77 rfl rfl (by decide) (fun _ => rfl) (fun x14 => ?_)
        refine gx_iload_n X 78 79 0 dX7_readPerson_78 rfl rfl rfl ?_
        refine gx_bipush X 79 81 (119) dX7_readPerson_79 rfl cb_119 ?_
        refine gx_jn (fun (k : Mm → Aa) => ∀ (m15 : Mm), mm_G p l e rX7_readPerson s m args below meth c 3 D cA adr sM NM (mm_Qi D cA adr sM NM) m15 104 [(0, .ref (adr 0)), (1, .int a1), (2, .int x14)] [] (k m15)) ?_ (fun k_104 hk_104 => ?_)
        · intro m15
          refine gx_aload_n X 104 105 0 dX7_readPerson_104 rfl rfl rfl ?_
          refine gx_getR X 105 108 0 (by decide) rfl rfl fg_X7_23 dX7_readPerson_105 rfl ?_
          refine gx_iload_n X 108 109 1 dX7_readPerson_108 rfl rfl rfl ?_
          refine gx_iconst X 109 110 (2) dX7_readPerson_109 rfl ci_2 ?_
          refine gx_iadd X 110 111 dX7_readPerson_110 rfl ?_
          refine gx_iload_n X 111 112 2 dX7_readPerson_111 rfl rfl rfl ?_
          refine gx_bipush X 112 114 (119) dX7_readPerson_112 rfl cb_119 ?_
          refine gx_jn (fun (k : Int32 → Mm → Aa) => ∀ (x16 : Int32) (m17 : Mm), mm_G p l e rX7_readPerson s m args below meth c 3 D cA adr sM NM (mm_Qi D cA adr sM NM) m17 142 [(0, .ref (adr 0)), (1, .int a1)] [.int x16, .int (a1 + 2), .ref (adr 4)] (k x16 m17)) ?_ (fun k_142 hk_142 => ?_)
          · intro x16 m17
            refine gx_iastore X 142 143 4 (by decide) rfl dX7_readPerson_142 rfl (fun m18 => ?_)
            refine gx_aload_n X 143 144 0 dX7_readPerson_143 rfl rfl rfl ?_
            refine gx_dup X 144 145 dX7_readPerson_144 rfl rfl ?_
            refine gx_getI X 145 148 0 (by decide) rfl rfl fg_X7_158 dX7_readPerson_145 rfl ?_
            refine gx_iconst X 148 149 (1) dX7_readPerson_148 rfl ci_1 ?_
            refine gx_iadd X 149 150 dX7_readPerson_149 rfl ?_
            refine gx_putI X 150 153 0 (by decide) rfl rfl fp_X7_158 dX7_readPerson_150 rfl (fun m19 => ?_)
            refine gx_aload_n X 153 154 0 dX7_readPerson_153 rfl rfl rfl ?_
            refine gx_getR X 154 157 0 (by decide) rfl rfl fg_X7_23 dX7_readPerson_154 rfl ?_
            refine gx_iload_n X 157 158 1 dX7_readPerson_157 rfl rfl rfl ?_
            refine gx_iconst X 158 159 (3) dX7_readPerson_158 rfl ci_3 ?_
            refine gx_iadd X 159 160 dX7_readPerson_159 rfl ?_
            refine gx_aload_n X 160 161 0 dX7_readPerson_160 rfl rfl rfl ?_
            refine gx_iconst X 161 162 (1) dX7_readPerson_161 rfl ci_1 ?_
            refine gx_bipush X 162 164 (20) dX7_readPerson_162 rfl cb_20 ?_
            refine gx_calliV X 164 167 0 (rest := [.int (a1 + 3), .ref (adr 4)]) (As := [.int 1, .int 20]) (tX7_readNumber hJ 1 20 m19) (by decide) rfl rfl wc_X7_readNumber wl_X7_175 wi_X7_readNumber ws_X7_readNumber wn_X7 rfl hd_X7_readNumber ⟨Nat.le_of_ble_eq_true rfl, Nat.le_of_ble_eq_true rfl⟩ ⟨rfl, rfl⟩ rfl rfl (Nat.le_of_ble_eq_true rfl) dX7_readPerson_164 rfl (fun x20 m21 => ?_)
            refine gx_iastore X 167 168 4 (by decide) rfl dX7_readPerson_167 rfl (fun m22 => ?_)
            refine gx_aload_n X 168 169 0 dX7_readPerson_168 rfl rfl rfl ?_
            refine gx_getR X 169 172 0 (by decide) rfl rfl fg_X7_23 dX7_readPerson_169 rfl ?_
            refine gx_iload_n X 172 173 1 dX7_readPerson_172 rfl rfl rfl ?_
            refine gx_iconst X 173 174 (3) dX7_readPerson_173 rfl ci_3 ?_
            refine gx_iadd X 174 175 dX7_readPerson_174 rfl ?_
            refine gx_iaload X 175 176 4 (by decide) rfl dX7_readPerson_175 rfl ?_
            refine gx_if_ge X 176 181 179 dX7_readPerson_176 rfl rfl ?_ ?_
            · refine gx_aload_n X 181 182 0 dX7_readPerson_181 rfl rfl rfl ?_
              refine gx_getR X 182 185 0 (by decide) rfl rfl fg_X7_23 dX7_readPerson_182 rfl ?_
              refine gx_iload_n X 185 186 1 dX7_readPerson_185 rfl rfl rfl ?_
              refine gx_iconst X 186 187 (4) dX7_readPerson_186 rfl ci_4 ?_
              refine gx_iadd X 187 188 dX7_readPerson_187 rfl ?_
              refine gx_iconst X 188 189 (1) dX7_readPerson_188 rfl ci_1 ?_
              refine gx_iastore X 189 190 4 (by decide) rfl dX7_readPerson_189 rfl (fun m23 => ?_)
              refine gx_aload_n X 190 191 0 dX7_readPerson_190 rfl rfl rfl ?_
              refine gx_calliV X 191 194 0 (rest := []) (As := []) (tX7_nextByte hJ m23) (by decide) rfl rfl wc_X7_nextByte wl_X7_161 wi_X7_nextByte ws_X7_nextByte wn_X7 rfl hd_X7_nextByte ⟨Nat.le_of_ble_eq_true rfl, Nat.le_of_ble_eq_true rfl⟩ ⟨rfl, rfl⟩ rfl rfl (Nat.le_of_ble_eq_true rfl) dX7_readPerson_191 rfl (fun x24 m25 => ?_)
              refine gx_bipush X 194 196 (116) dX7_readPerson_194 rfl cb_116 ?_
              refine gx_jn (fun (k : Mm → Aa) => ∀ (m26 : Mm), mm_G p l e rX7_readPerson s m args below meth c 3 D cA adr sM NM (mm_Qi D cA adr sM NM) m26 255 [] [] (k m26)) ?_ (fun k_255 hk_255 => ?_)
              · intro m26
                refine gx_iconst X 255 256 (1) dX7_readPerson_255 rfl ci_1 ?_
                exact gx_zret X 256 hr dX7_readPerson_256
              refine gx_icmp_ne X 196 255 199 dX7_readPerson_196 rfl rfl ?_ ?_
              · refine gx_sub [] rfl ?_
                exact hk_255 m25
              refine gx_aload_n X 199 200 0 dX7_readPerson_199 rfl rfl rfl ?_
              refine gx_dup X 200 201 dX7_readPerson_200 rfl rfl ?_
              refine gx_getI X 201 204 0 (by decide) rfl rfl fg_X7_158 dX7_readPerson_201 rfl ?_
              refine gx_iconst X 204 205 (1) dX7_readPerson_204 rfl ci_1 ?_
              refine gx_iadd X 205 206 dX7_readPerson_205 rfl ?_
              refine gx_putI X 206 209 0 (by decide) rfl rfl fp_X7_158 dX7_readPerson_206 rfl (fun m27 => ?_)
              refine gx_aload_n X 209 210 0 dX7_readPerson_209 rfl rfl rfl ?_
              refine gx_getR X 210 213 0 (by decide) rfl rfl fg_X7_23 dX7_readPerson_210 rfl ?_
              refine gx_iload_n X 213 214 1 dX7_readPerson_213 rfl rfl rfl ?_
              refine gx_iconst X 214 215 (4) dX7_readPerson_214 rfl ci_4 ?_
              refine gx_iadd X 215 216 dX7_readPerson_215 rfl ?_
              refine gx_aload_n X 216 217 0 dX7_readPerson_216 rfl rfl rfl ?_
              refine gx_calliV X 217 220 0 (rest := [.int (a1 + 4), .ref (adr 4)]) (As := []) (tX7_nextByte hJ m27) (by decide) rfl rfl wc_X7_nextByte wl_X7_161 wi_X7_nextByte ws_X7_nextByte wn_X7 rfl hd_X7_nextByte ⟨Nat.le_of_ble_eq_true rfl, Nat.le_of_ble_eq_true rfl⟩ ⟨rfl, rfl⟩ rfl rfl (Nat.le_of_ble_eq_true rfl) dX7_readPerson_217 rfl (fun x28 m29 => ?_)
              refine gx_bipush X 220 222 (48) dX7_readPerson_220 rfl cb_48 ?_
              refine gx_isub X 222 223 dX7_readPerson_222 rfl ?_
              refine gx_iastore X 223 224 4 (by decide) rfl dX7_readPerson_223 rfl (fun m30 => ?_)
              refine gx_aload_n X 224 225 0 dX7_readPerson_224 rfl rfl rfl ?_
              refine gx_getR X 225 228 0 (by decide) rfl rfl fg_X7_23 dX7_readPerson_225 rfl ?_
              refine gx_iload_n X 228 229 1 dX7_readPerson_228 rfl rfl rfl ?_
              refine gx_iconst X 229 230 (4) dX7_readPerson_229 rfl ci_4 ?_
              refine gx_iadd X 230 231 dX7_readPerson_230 rfl ?_
              refine gx_iaload X 231 232 4 (by decide) rfl dX7_readPerson_231 rfl ?_
              refine gx_i2l X 232 233 dX7_readPerson_232 rfl ?_
              refine gx_lconst X 233 234 (1) dX7_readPerson_233 rfl cl_1 ?_
              refine gx_ldc2_w X 234 237 wk_X7_122 dX7_readPerson_234 rfl ?_
              refine gx_calliS X 237 240 (rest := []) (As := [.long ((m30 4 (a1 + 4).toNatClampNeg).toInt64), .long 1, .long 6]) (tX7_in hJ ((m30 4 (a1 + 4).toNatClampNeg).toInt64) 1 6 m30) wc_X7_in wl_X7_101 wt_X7_in wn_X7 hd_X7_in ⟨Nat.le_of_ble_eq_true rfl, Nat.le_of_ble_eq_true rfl⟩ ⟨rfl, rfl⟩ rfl rfl (Nat.le_of_ble_eq_true rfl) dX7_readPerson_237 rfl (fun x31 m32 => ?_)
              refine gx_if_ne X 240 245 243 dX7_readPerson_240 rfl rfl ?_ ?_
              · refine gx_aload_n X 245 246 0 dX7_readPerson_245 rfl rfl rfl ?_
                refine gx_dup X 246 247 dX7_readPerson_246 rfl rfl ?_
                refine gx_getI X 247 250 0 (by decide) rfl rfl fg_X7_158 dX7_readPerson_247 rfl ?_
                refine gx_iconst X 250 251 (1) dX7_readPerson_250 rfl ci_1 ?_
                refine gx_iadd X 251 252 dX7_readPerson_251 rfl ?_
                refine gx_putI X 252 255 0 (by decide) rfl rfl fp_X7_158 dX7_readPerson_252 rfl (fun m33 => ?_)
                refine gx_sub [] rfl ?_
                exact hk_255 m33
              refine gx_iconst X 243 244 (0) dX7_readPerson_243 rfl ci_0 ?_
              exact gx_zret X 244 hr dX7_readPerson_244
            refine gx_iconst X 179 180 (0) dX7_readPerson_179 rfl ci_0 ?_
            exact gx_zret X 180 hr dX7_readPerson_180
          refine gx_icmp_ne X 114 121 117 dX7_readPerson_114 rfl rfl ?_ ?_
          · refine gx_iload_n X 121 122 2 dX7_readPerson_121 rfl rfl rfl ?_
            refine gx_bipush X 122 124 (114) dX7_readPerson_122 rfl cb_114 ?_
            refine gx_icmp_ne X 124 131 127 dX7_readPerson_124 rfl rfl ?_ ?_
            · refine gx_iload_n X 131 132 2 dX7_readPerson_131 rfl rfl rfl ?_
              refine gx_bipush X 132 134 (108) dX7_readPerson_132 rfl cb_108 ?_
              refine gx_icmp_ne X 134 141 137 dX7_readPerson_134 rfl rfl ?_ ?_
              · refine gx_iconst X 141 142 (3) dX7_readPerson_141 rfl ci_3 ?_
                refine gx_sub [0, 1] rfl ?_
                exact hk_142 3 m15
              refine gx_iconst X 137 138 (2) dX7_readPerson_137 rfl ci_2 ?_
              refine gx_goto X 138 142 dX7_readPerson_138 rfl ?_
              refine gx_sub [0, 1] rfl ?_
              exact hk_142 2 m15
            refine gx_iconst X 127 128 (1) dX7_readPerson_127 rfl ci_1 ?_
            refine gx_goto X 128 142 dX7_readPerson_128 rfl ?_
            refine gx_sub [0, 1] rfl ?_
            exact hk_142 1 m15
          refine gx_iconst X 117 118 (0) dX7_readPerson_117 rfl ci_0 ?_
          refine gx_goto X 118 142 dX7_readPerson_118 rfl ?_
          refine gx_sub [0, 1] rfl ?_
          exact hk_142 0 m15
        refine gx_icmp_eq X 81 104 84 dX7_readPerson_81 rfl rfl ?_ ?_
        · refine gx_sub [1, 2, 0] rfl ?_
          exact hk_104 m13
        refine gx_iload_n X 84 85 0 dX7_readPerson_84 rfl rfl rfl ?_
        refine gx_bipush X 85 87 (114) dX7_readPerson_85 rfl cb_114 ?_
        refine gx_icmp_eq X 87 104 90 dX7_readPerson_87 rfl rfl ?_ ?_
        · refine gx_sub [1, 2, 0] rfl ?_
          exact hk_104 m13
        refine gx_iload_n X 90 91 0 dX7_readPerson_90 rfl rfl rfl ?_
        refine gx_bipush X 91 93 (108) dX7_readPerson_91 rfl cb_108 ?_
        refine gx_icmp_eq X 93 104 96 dX7_readPerson_93 rfl rfl ?_ ?_
        · refine gx_sub [1, 2, 0] rfl ?_
          exact hk_104 m13
        refine gx_iload_n X 96 97 0 dX7_readPerson_96 rfl rfl rfl ?_
        refine gx_bipush X 97 99 (115) dX7_readPerson_97 rfl cb_115 ?_
        refine gx_icmp_eq X 99 104 102 dX7_readPerson_99 rfl rfl ?_ ?_
        · refine gx_sub [1, 2, 0] rfl ?_
          exact hk_104 m13
        refine gx_iconst X 102 103 (0) dX7_readPerson_102 rfl ci_0 ?_
        exact gx_zret X 103 hr dX7_readPerson_103
      refine gx_icmp_ne X 54 61 57 dX7_readPerson_54 rfl rfl ?_ ?_
      · refine gx_iconst X 61 62 (1) dX7_readPerson_61 rfl ci_1 ?_
        refine gx_sub [0, 1] rfl ?_
        exact hk_62 1 m7
      refine gx_iconst X 57 58 (0) dX7_readPerson_57 rfl ci_0 ?_
      refine gx_goto X 58 62 dX7_readPerson_58 rfl ?_
      refine gx_sub [0, 1] rfl ?_
      exact hk_62 0 m7
    refine gx_icmp_eq X 33 44 36 dX7_readPerson_33 rfl rfl ?_ ?_
    · refine gx_sub [1, 2, 0] rfl ?_
      exact hk_44 m5
    refine gx_iload_n X 36 37 0 dX7_readPerson_36 rfl rfl rfl ?_
    refine gx_bipush X 37 39 (115) dX7_readPerson_37 rfl cb_115 ?_
    refine gx_icmp_eq X 39 44 42 dX7_readPerson_39 rfl rfl ?_ ?_
    · refine gx_sub [1, 2, 0] rfl ?_
      exact hk_44 m5
    refine gx_iconst X 42 43 (0) dX7_readPerson_42 rfl ci_0 ?_
    exact gx_zret X 43 hr dX7_readPerson_43
  refine gx_iconst X 23 24 (0) dX7_readPerson_23 rfl ci_0 ?_
  exact gx_zret X 24 hr dX7_readPerson_24
