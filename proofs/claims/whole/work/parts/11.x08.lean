def fX6_late (a1 : Int32) (a2 : Int32) (a3 : Int32) (a4 : Int32) (μ : Mm) : Aa := mm_lt (fun (m1 : Mm) => some ((-1), m1)) (fun (k_23 : Mm → Aa) => if a1 < 1 then (k_23 μ) else (if 40 < a1 then (k_23 μ) else (if a2 < 1 then (k_23 μ) else (if a2 ≤ 400 then (mm_lt (fun (m2 : Mm) => some ((-1), m2)) (fun (k_48 : Mm → Aa) => if a3 < 1 then (k_48 μ) else (if 400 < a3 then (k_48 μ) else (if a4 < 0 then (k_48 μ) else (if a4 ≤ 1 then (mm_ck 0 6 (mm_lt (μ 2 (0 : Int32).toNatClampNeg) (fun (x3 : Int32) => if x3 = 0 then (some ((-2), μ)) else (mm_lt ((a1 * a3) - a2) (fun (x4 : Int32) => if 0 ≤ x4 then (mm_cl (fX6_cutUp (if 0 < (((a1 * (a3 - 1)) + 1) - a2) then (((a1 * (a3 - 1)) + 1) - a2) else 0) x3 μ) (fun (x5 : Int32) (m6 : Mm) => mm_lt x5 (fun (x7 : Int32) => mm_nz x3 (mm_lt (x4 / x3) (fun (x8 : Int32) => if x7 ≤ x8 then (mm_lt (fun (x9 : Int32) (m10 : Mm) => some (x9, m10)) (fun (k_133 : Int32 → Mm → Aa) => if a4 = 0 then (k_133 x7 m6) else (k_133 x8 m6))) else (some ((-4), m6))))))) else (some ((-4), μ))))))) else (k_48 μ)))))) else (k_23 μ)))))
abbrev rX6_late : Room := { frames := 1, cells := 0, slots := 0, locals := 21 }
set_option maxRecDepth 100000 in
set_option maxHeartbeats 8000000 in
theorem tX6_late {l : Launch} {D : va_G} {cA : Nat → ClassId} {adr : Nat → Nat} {tt sK sV : Nat → Nat} {qv : Value} (hJ : mm_J adr NX) (a1 : Int32) (a2 : Int32) (a3 : Int32) (a4 : Int32) (μ : Mm) : mm_Mi l D cA adr sX NX (mm_SX (mm_A adr NX) tt sK sV qv) yX6_late cX6_late 9 (some .int) rX6_late [.ref (adr 0), .int a1, .int a2, .int a3, .int a4] μ (fX6_late a1 a2 a3 a4 μ) := by
  refine mm_entryi hJ mm_okX (by decide) (Nat.le_of_ble_eq_true rfl) ⟨rfl, rfl⟩ (fun p e s m below meth c X hr => ?_)
  generalize ([.ref (adr 0), .int a1, .int a2, .int a3, .int a4] : List Value).toArray = args at X ⊢
  refine gx_lv (lv' := [(0, .ref (adr 0)), (1, .int a1), (2, .int a2), (3, .int a3), (4, .int a4)]) rfl ?_
  unfold fX6_late
  refine gx_iload_n X 0 1 1 dX6_late_0 rfl rfl rfl ?_
  refine gx_iconst X 1 2 (1) dX6_late_1 rfl ci_1 ?_
  refine gx_jn (fun (k : Mm → Aa) => ∀ (m1 : Mm), mm_G p l e rX6_late s m args below meth c 9 D cA adr sX NX (mm_Qi D cA adr sX NX) m1 23 [] [] (k m1)) ?_ (fun k_23 hk_23 => ?_)
  · intro m1
    refine gx_iconst X 23 24 (-1) dX6_late_23 rfl ci_m1 ?_
    exact gx_iret X 24 hr dX6_late_24
  refine gx_icmp_lt X 2 23 5 dX6_late_2 rfl rfl ?_ ?_
  · refine gx_sub [] rfl ?_
    exact hk_23 μ
  refine gx_iload_n X 5 6 1 dX6_late_5 rfl rfl rfl ?_
  refine gx_bipush X 6 8 (40) dX6_late_6 rfl cb_40 ?_
  refine gx_icmp_gt X 8 23 11 dX6_late_8 rfl rfl ?_ ?_
  · refine gx_sub [] rfl ?_
    exact hk_23 μ
  refine gx_iload_n X 11 12 2 dX6_late_11 rfl rfl rfl ?_
  refine gx_iconst X 12 13 (1) dX6_late_12 rfl ci_1 ?_
  refine gx_icmp_lt X 13 23 16 dX6_late_13 rfl rfl ?_ ?_
  · refine gx_sub [] rfl ?_
    exact hk_23 μ
  refine gx_iload_n X 16 17 2 dX6_late_16 rfl rfl rfl ?_
  refine gx_sipush X 17 20 (400) dX6_late_17 rfl cs_400 ?_
  refine gx_icmp_le X 20 25 23 dX6_late_20 rfl rfl ?_ ?_
  · refine gx_iload_n X 25 26 3 dX6_late_25 rfl rfl rfl ?_
    refine gx_iconst X 26 27 (1) dX6_late_26 rfl ci_1 ?_
    refine gx_jn (fun (k : Mm → Aa) => ∀ (m2 : Mm), mm_G p l e rX6_late s m args below meth c 9 D cA adr sX NX (mm_Qi D cA adr sX NX) m2 48 [] [] (k m2)) ?_ (fun k_48 hk_48 => ?_)
    · intro m2
      refine gx_iconst X 48 49 (-1) dX6_late_48 rfl ci_m1 ?_
      exact gx_iret X 49 hr dX6_late_49
    refine gx_icmp_lt X 27 48 30 dX6_late_27 rfl rfl ?_ ?_
    · refine gx_sub [] rfl ?_
      exact hk_48 μ
    refine gx_iload_n X 30 31 3 dX6_late_30 rfl rfl rfl ?_
    refine gx_sipush X 31 34 (400) dX6_late_31 rfl cs_400 ?_
    refine gx_icmp_gt X 34 48 37 dX6_late_34 rfl rfl ?_ ?_
    · refine gx_sub [] rfl ?_
      exact hk_48 μ
    refine gx_iload X 37 39 4 dX6_late_37 rfl rfl ?_
    refine gx_if_lt X 39 48 42 dX6_late_39 rfl rfl ?_ ?_
    · refine gx_sub [] rfl ?_
      exact hk_48 μ
    refine gx_iload X 42 44 4 dX6_late_42 rfl rfl ?_
    refine gx_iconst X 44 45 (1) dX6_late_44 rfl ci_1 ?_
    refine gx_icmp_le X 45 50 48 dX6_late_45 rfl rfl ?_ ?_
    · refine gx_aload_n X 50 51 0 dX6_late_50 rfl rfl rfl ?_
      refine gx_getR X 51 54 0 (by decide) rfl rfl fg_X6_10 dX6_late_51 rfl ?_
      refine gx_getR X 54 57 1 (by decide) rfl rfl fg_X6_65 dX6_late_54 rfl ?_
      refine gx_iconst X 57 58 (0) dX6_late_57 rfl ci_0 ?_
      refine gx_iaload X 58 59 2 (by decide) rfl dX6_late_58 rfl ?_
      refine gx_istore X 59 61 (fun x3 => [(5, .int x3), (0, .ref (adr 0)), (1, .int a1), (2, .int a2), (3, .int a3), (4, .int a4)]) dX6_late_59 rfl (by decide) (fun _ => rfl) (fun x3 => ?_)
      refine gx_iload X 61 63 0 dX6_late_61 rfl rfl ?_
      refine gx_if_ne X 63 69 66 dX6_late_63 rfl rfl ?_ ?_
      · refine gx_iload_n X 69 70 2 dX6_late_69 rfl rfl rfl ?_
        refine gx_iload_n X 70 71 4 dX6_late_70 rfl rfl rfl ?_
        refine gx_imul X 71 72 dX6_late_71 rfl ?_
        refine gx_iload_n X 72 73 3 dX6_late_72 rfl rfl rfl ?_
        refine gx_isub X 73 74 dX6_late_73 rfl ?_
        refine gx_istore X 74 76 (fun x4 => [(6, .int x4), (5, .int x3), (0, .ref (adr 0)), (1, .int a1), (2, .int a2), (3, .int a3), (4, .int a4)]) dX6_late_74 rfl (by decide) (fun _ => rfl) (fun x4 => ?_)
        refine gx_iload X 76 78 0 dX6_late_76 rfl rfl ?_
        refine gx_if_ge X 78 84 81 dX6_late_78 rfl rfl ?_ ?_
        · refine gx_iconst X 84 85 (0) dX6_late_84 rfl ci_0 ?_
          refine gx_iload_n X 85 86 3 dX6_late_85 rfl rfl rfl ?_
          refine gx_iload_n X 86 87 5 dX6_late_86 rfl rfl rfl ?_
          refine gx_iconst X 87 88 (1) dX6_late_87 rfl ci_1 ?_
          refine gx_isub X 88 89 dX6_late_88 rfl ?_
          refine gx_imul X 89 90 dX6_late_89 rfl ?_
          refine gx_iconst X 90 91 (1) dX6_late_90 rfl ci_1 ?_
          refine gx_iadd X 91 92 dX6_late_91 rfl ?_
          refine gx_iload_n X 92 93 4 dX6_late_92 rfl rfl rfl ?_
          refine gx_isub X 93 94 dX6_late_93 rfl ?_
          refine gx_mmax X 94 97 wl_X6_221 wt_Mmax wn_J9 wc_Mmax (by decide) (Nat.le_of_ble_eq_true rfl) dX6_late_94 rfl ?_
          refine gx_iload X 97 99 1 dX6_late_97 rfl rfl ?_
          refine gx_calliS X 99 102 (rest := []) (As := [.int (if 0 < (((a1 * (a3 - 1)) + 1) - a2) then (((a1 * (a3 - 1)) + 1) - a2) else 0), .int x3]) (tX6_cutUp hJ (if 0 < (((a1 * (a3 - 1)) + 1) - a2) then (((a1 * (a3 - 1)) + 1) - a2) else 0) x3 μ) wc_X6_cutUp wl_X6_210 wt_X6_cutUp wn_X6 hd_X6_cutUp ⟨Nat.le_of_ble_eq_true rfl, Nat.le_of_ble_eq_true rfl⟩ ⟨rfl, rfl⟩ rfl rfl (Nat.le_of_ble_eq_true rfl) dX6_late_99 rfl (fun x5 m6 => ?_)
          refine gx_istore X 102 104 (fun x7 => [(7, .int x7), (6, .int x4), (5, .int x3), (0, .ref (adr 0)), (1, .int a1), (2, .int a2), (3, .int a3), (4, .int a4)]) dX6_late_102 rfl (by decide) (fun _ => rfl) (fun x7 => ?_)
          refine gx_iload X 104 106 1 dX6_late_104 rfl rfl ?_
          refine gx_iload X 106 108 2 dX6_late_106 rfl rfl ?_
          refine gx_idiv X 108 109 dX6_late_108 rfl ?_
          refine gx_istore X 109 111 (fun x8 => [(8, .int x8), (7, .int x7), (6, .int x4), (5, .int x3), (0, .ref (adr 0)), (1, .int a1), (2, .int a2), (3, .int a3), (4, .int a4)]) dX6_late_109 rfl (by decide) (fun _ => rfl) (fun x8 => ?_)
          refine gx_iload X 111 113 1 dX6_late_111 rfl rfl ?_
          refine gx_iload X 113 115 0 dX6_late_113 rfl rfl ?_
          refine gx_icmp_le X 115 121 118 dX6_late_115 rfl rfl ?_ ?_
          · refine gx_iload X 121 123 8 dX6_late_121 rfl rfl ?_
            refine gx_jn (fun (k : Int32 → Mm → Aa) => ∀ (x9 : Int32) (m10 : Mm), mm_G p l e rX6_late s m args below meth c 9 D cA adr sX NX (mm_Qi D cA adr sX NX) m10 133 [] [.int x9] (k x9 m10)) ?_ (fun k_133 hk_133 => ?_)
            · intro x9 m10
              exact gx_iret X 133 hr dX6_late_133
            refine gx_if_ne X 123 131 126 dX6_late_123 rfl rfl ?_ ?_
            · refine gx_iload X 131 133 0 dX6_late_131 rfl rfl ?_
              refine gx_sub [] rfl ?_
              exact hk_133 x8 m6
            refine gx_iload X 126 128 1 dX6_late_126 rfl rfl ?_
            refine gx_goto X 128 133 dX6_late_128 rfl ?_
            refine gx_sub [] rfl ?_
            exact hk_133 x7 m6
          refine gx_bipush X 118 120 (-4) dX6_late_118 rfl cb_m4 ?_
          exact gx_iret X 120 hr dX6_late_120
        refine gx_bipush X 81 83 (-4) dX6_late_81 rfl cb_m4 ?_
        exact gx_iret X 83 hr dX6_late_83
      refine gx_bipush X 66 68 (-2) dX6_late_66 rfl cb_m2 ?_
      exact gx_iret X 68 hr dX6_late_68
    refine gx_sub [] rfl ?_
    exact hk_48 μ
  refine gx_sub [] rfl ?_
  exact hk_23 μ
def fX6_other (a1 : Int32) (a2 : Int32) (μ : Mm) : Aa := mm_lt (fun (m1 : Mm) => some ((-1), m1)) (fun (k_18 : Mm → Aa) => if a1 < 0 then (k_18 μ) else (if 2 < a1 then (k_18 μ) else (if a2 < 0 then (k_18 μ) else (if a2 ≤ 1 then (mm_cl (fX0_load μ) (fun (x2 : Int32) (m3 : Mm) => mm_ck 1 6 (mm_lt (mm_wr m3 32 (1 : Int32).toNatClampNeg a1) (fun (m4 : Mm) => mm_cl (fX0_run 999 m4) (fun (x5 : Int32) (m6 : Mm) => mm_lt (fun (x7 : Int32) (m8 : Mm) => some (x7, m8)) (fun (k_72 : Int32 → Mm → Aa) => if a2 = 0 then (k_72 (m6 30 3) m6) else (mm_cl (fX0_sumOfOver m6) (fun (x9 : Int32) (m10 : Mm) => k_72 x9 m10)))))))) else (k_18 μ)))))
abbrev rX6_other : Room := { frames := 5, cells := 0, slots := 0, locals := 110 }
set_option maxRecDepth 100000 in
set_option maxHeartbeats 8000000 in
theorem tX6_other {l : Launch} {D : va_G} {cA : Nat → ClassId} {adr : Nat → Nat} {tt sK sV : Nat → Nat} {qv : Value} (hJ : mm_J adr NX) (a1 : Int32) (a2 : Int32) (μ : Mm) : mm_Mi l D cA adr sX NX (mm_SX (mm_A adr NX) tt sK sV qv) yX6_other cX6_other 3 (some .int) rX6_other [.ref (adr 0), .int a1, .int a2] μ (fX6_other a1 a2 μ) := by
  refine mm_entryi hJ mm_okX (by decide) (Nat.le_of_ble_eq_true rfl) ⟨rfl, rfl⟩ (fun p e s m below meth c X hr => ?_)
  generalize ([.ref (adr 0), .int a1, .int a2] : List Value).toArray = args at X ⊢
  refine gx_lv (lv' := [(0, .ref (adr 0)), (1, .int a1), (2, .int a2)]) rfl ?_
  unfold fX6_other
  refine gx_iload_n X 0 1 1 dX6_other_0 rfl rfl rfl ?_
  refine gx_jn (fun (k : Mm → Aa) => ∀ (m1 : Mm), mm_G p l e rX6_other s m args below meth c 3 D cA adr sX NX (mm_Qi D cA adr sX NX) m1 18 [] [] (k m1)) ?_ (fun k_18 hk_18 => ?_)
  · intro m1
    refine gx_iconst X 18 19 (-1) dX6_other_18 rfl ci_m1 ?_
    exact gx_iret X 19 hr dX6_other_19
  refine gx_if_lt X 1 18 4 dX6_other_1 rfl rfl ?_ ?_
  · refine gx_sub [] rfl ?_
    exact hk_18 μ
  refine gx_iload_n X 4 5 1 dX6_other_4 rfl rfl rfl ?_
  refine gx_iconst X 5 6 (2) dX6_other_5 rfl ci_2 ?_
  refine gx_icmp_gt X 6 18 9 dX6_other_6 rfl rfl ?_ ?_
  · refine gx_sub [] rfl ?_
    exact hk_18 μ
  refine gx_iload_n X 9 10 2 dX6_other_9 rfl rfl rfl ?_
  refine gx_if_lt X 10 18 13 dX6_other_10 rfl rfl ?_ ?_
  · refine gx_sub [] rfl ?_
    exact hk_18 μ
  refine gx_iload_n X 13 14 2 dX6_other_13 rfl rfl rfl ?_
  refine gx_iconst X 14 15 (1) dX6_other_14 rfl ci_1 ?_
  refine gx_icmp_le X 15 20 18 dX6_other_15 rfl rfl ?_ ?_
  · refine gx_aload_n X 20 21 0 dX6_other_20 rfl rfl rfl ?_
    refine gx_getR X 21 24 0 (by decide) rfl rfl fg_X6_33 dX6_other_21 rfl ?_
    refine gx_aload_n X 24 25 0 dX6_other_24 rfl rfl rfl ?_
    refine gx_getR X 25 28 0 (by decide) rfl rfl fg_X6_10 dX6_other_25 rfl ?_
    refine gx_callvV X 28 31 30 (rest := []) (As := [.ref (adr 1)]) (tX0_load hJ μ) (by decide) rfl rfl wc_X0_load wl_X6_120 wi_X0_load ws_X0_load wn_X0 rfl hd_X0_load ⟨Nat.le_of_ble_eq_true rfl, Nat.le_of_ble_eq_true rfl⟩ ⟨rfl, rfl⟩ rfl rfl (Nat.le_of_ble_eq_true rfl) dX6_other_28 rfl (fun x2 m3 => ?_)
    refine gx_aload_n X 31 32 0 dX6_other_31 rfl rfl rfl ?_
    refine gx_getR X 32 35 0 (by decide) rfl rfl fg_X6_33 dX6_other_32 rfl ?_
    refine gx_getR X 35 38 30 (by decide) rfl rfl fg_X6_226 dX6_other_35 rfl ?_
    refine gx_iconst X 38 39 (1) dX6_other_38 rfl ci_1 ?_
    refine gx_iload_n X 39 40 1 dX6_other_39 rfl rfl rfl ?_
    refine gx_iastore X 40 41 32 (by decide) rfl dX6_other_40 rfl (fun m4 => ?_)
    refine gx_aload_n X 41 42 0 dX6_other_41 rfl rfl rfl ?_
    refine gx_getR X 42 45 0 (by decide) rfl rfl fg_X6_33 dX6_other_42 rfl ?_
    refine gx_sipush X 45 48 (999) dX6_other_45 rfl cs_999 ?_
    refine gx_callvV X 48 51 30 (rest := []) (As := [.int 999]) (tX0_run hJ 999 m4) (by decide) rfl rfl wc_X0_run wl_X6_124 wi_X0_run ws_X0_run wn_X0 rfl hd_X0_run ⟨Nat.le_of_ble_eq_true rfl, Nat.le_of_ble_eq_true rfl⟩ ⟨rfl, rfl⟩ rfl rfl (Nat.le_of_ble_eq_true rfl) dX6_other_48 rfl (fun x5 m6 => ?_)
    refine gx_iload_n X 51 52 2 dX6_other_51 rfl rfl rfl ?_
    refine gx_jn (fun (k : Int32 → Mm → Aa) => ∀ (x7 : Int32) (m8 : Mm), mm_G p l e rX6_other s m args below meth c 3 D cA adr sX NX (mm_Qi D cA adr sX NX) m8 72 [] [.int x7] (k x7 m8)) ?_ (fun k_72 hk_72 => ?_)
    · intro x7 m8
      exact gx_iret X 72 hr dX6_other_72
    refine gx_if_ne X 52 65 55 dX6_other_52 rfl rfl ?_ ?_
    · refine gx_aload_n X 65 66 0 dX6_other_65 rfl rfl rfl ?_
      refine gx_getR X 66 69 0 (by decide) rfl rfl fg_X6_33 dX6_other_66 rfl ?_
      refine gx_calliV X 69 72 30 (rest := []) (As := []) (tX0_sumOfOver hJ m6) (by decide) rfl rfl wc_X0_sumOfOver wl_X6_170 wi_X0_sumOfOver ws_X0_sumOfOver wn_X0 rfl hd_X0_sumOfOver ⟨Nat.le_of_ble_eq_true rfl, Nat.le_of_ble_eq_true rfl⟩ ⟨rfl, rfl⟩ rfl rfl (Nat.le_of_ble_eq_true rfl) dX6_other_69 rfl (fun x9 m10 => ?_)
      refine gx_sub [] rfl ?_
      exact hk_72 x9 m10
    refine gx_aload_n X 55 56 0 dX6_other_55 rfl rfl rfl ?_
    refine gx_getR X 56 59 0 (by decide) rfl rfl fg_X6_33 dX6_other_56 rfl ?_
    refine gx_getI X 59 62 30 (by decide) rfl rfl fg_X6_151 dX6_other_59 rfl ?_
    refine gx_goto X 62 72 dX6_other_62 rfl ?_
    refine gx_sub [] rfl ?_
    exact hk_72 (m6 30 3) m6
  refine gx_sub [] rfl ?_
  exact hk_18 μ
def fX6_image (μ : Mm) : Aa := mm_cl (fX3_becomeK μ) (fun (x1 : Int32) (m2 : Mm) => mm_bo 1 (mm_lt (mm_wr m2 0 2 1) (fun (m3 : Mm) => some (1, m3))))
abbrev rX6_image : Room := { frames := 2, cells := 0, slots := 0, locals := 48 }
set_option maxRecDepth 100000 in
set_option maxHeartbeats 8000000 in
theorem tX6_image {l : Launch} {D : va_G} {cA : Nat → ClassId} {adr : Nat → Nat} {tt sK sV : Nat → Nat} {qv : Value} (hJ : mm_J adr NX) (μ : Mm) : mm_Mi l D cA adr sX NX (mm_SX (mm_A adr NX) tt sK sV qv) yX6_image cX6_image 1 (some .int) rX6_image [.ref (adr 0)] μ (fX6_image μ) := by
  refine mm_entryi hJ mm_okX (by decide) (Nat.le_of_ble_eq_true rfl) ⟨rfl, rfl⟩ (fun p e s m below meth c X hr => ?_)
  generalize ([.ref (adr 0)] : List Value).toArray = args at X ⊢
  refine gx_lv (lv' := [(0, .ref (adr 0))]) rfl ?_
  unfold fX6_image
  refine gx_aload_n X 0 1 0 dX6_image_0 rfl rfl rfl ?_
  refine gx_getR X 1 4 0 (by decide) rfl rfl fg_X6_16 dX6_image_1 rfl ?_
  refine gx_aload_n X 4 5 0 dX6_image_4 rfl rfl rfl ?_
  refine gx_getR X 5 8 0 (by decide) rfl rfl fg_X6_10 dX6_image_5 rfl ?_
  refine gx_callvV X 8 11 14 (rest := []) (As := [.ref (adr 1)]) (tX3_becomeK hJ μ) (by decide) rfl rfl wc_X3_become wl_X6_227 wi_X3_become ws_X3_become wn_X3 rfl hd_X3_become ⟨Nat.le_of_ble_eq_true rfl, Nat.le_of_ble_eq_true rfl⟩ ⟨rfl, rfl⟩ rfl rfl (Nat.le_of_ble_eq_true rfl) dX6_image_8 rfl (fun x1 m2 => ?_)
  refine gx_aload_n X 11 12 0 dX6_image_11 rfl rfl rfl ?_
  refine gx_iconst X 12 13 (1) dX6_image_12 rfl ci_1 ?_
  refine gx_putZ X 13 16 0 (by decide) rfl rfl fp_X6_230 dX6_image_13 rfl (fun m3 => ?_)
  refine gx_iconst X 16 17 (1) dX6_image_16 rfl ci_1 ?_
  exact gx_iret X 17 hr dX6_image_17
def fX6_restore (μ : Mm) : Aa := if (μ 0 2) = 0 then (some ((-4), μ)) else (mm_cl (fX3_becomeN μ) (fun (x1 : Int32) (m2 : Mm) => some (1, m2)))
abbrev rX6_restore : Room := { frames := 2, cells := 0, slots := 0, locals := 48 }
set_option maxRecDepth 100000 in
set_option maxHeartbeats 8000000 in
theorem tX6_restore {l : Launch} {D : va_G} {cA : Nat → ClassId} {adr : Nat → Nat} {tt sK sV : Nat → Nat} {qv : Value} (hJ : mm_J adr NX) (μ : Mm) : mm_Mi l D cA adr sX NX (mm_SX (mm_A adr NX) tt sK sV qv) yX6_restore cX6_restore 1 (some .int) rX6_restore [.ref (adr 0)] μ (fX6_restore μ) := by
  refine mm_entryi hJ mm_okX (by decide) (Nat.le_of_ble_eq_true rfl) ⟨rfl, rfl⟩ (fun p e s m below meth c X hr => ?_)
  generalize ([.ref (adr 0)] : List Value).toArray = args at X ⊢
  refine gx_lv (lv' := [(0, .ref (adr 0))]) rfl ?_
  unfold fX6_restore
  refine gx_aload_n X 0 1 0 dX6_restore_0 rfl rfl rfl ?_
  refine gx_getI X 1 4 0 (by decide) rfl rfl fg_X6_230 dX6_restore_1 rfl ?_
  refine gx_if_ne X 4 10 7 dX6_restore_4 rfl rfl ?_ ?_
  · refine gx_aload_n X 10 11 0 dX6_restore_10 rfl rfl rfl ?_
    refine gx_getR X 11 14 0 (by decide) rfl rfl fg_X6_10 dX6_restore_11 rfl ?_
    refine gx_aload_n X 14 15 0 dX6_restore_14 rfl rfl rfl ?_
    refine gx_getR X 15 18 0 (by decide) rfl rfl fg_X6_16 dX6_restore_15 rfl ?_
    refine gx_callvV X 18 21 1 (rest := []) (As := [.ref (adr 14)]) (tX3_becomeN hJ μ) (by decide) rfl rfl wc_X3_become wl_X6_227 wi_X3_become ws_X3_become wn_X3 rfl hd_X3_become ⟨Nat.le_of_ble_eq_true rfl, Nat.le_of_ble_eq_true rfl⟩ ⟨rfl, rfl⟩ rfl rfl (Nat.le_of_ble_eq_true rfl) dX6_restore_18 rfl (fun x1 m2 => ?_)
    refine gx_iconst X 21 22 (1) dX6_restore_21 rfl ci_1 ?_
    exact gx_iret X 22 hr dX6_restore_22
  refine gx_bipush X 7 9 (-4) dX6_restore_7 rfl cb_m4 ?_
  exact gx_iret X 9 hr dX6_restore_9
def fX6_crowd_L49 (a1 : Int32) (a3 : Int32) (a4 : Int32) (k_74 : Mm → Aa) (k_83 : Mm → Aa) (rec_49 : Int32 → Mm → Aa) (x11 : Int32) (m12 : Mm) : Aa := if a4 ≤ x11 then (k_83 m12) else (mm_cl (fX3_mayCome ((53 + a1.toNatClampNeg)) 24 (a3 + (x11 * 5)) m12) (fun (x13 : Int32) (m14 : Mm) => if x13 = 0 then (k_74 m14) else (mm_lt (x11 + 1) (fun (x15 : Int32) => rec_49 x15 m14))))
def fX6_crowd (a1 : Int32) (a2 : Int32) (a3 : Int32) (a4 : Int32) (μ : Mm) : Aa := mm_lt (fun (m1 : Mm) => some ((-1), m1)) (fun (k_12 : Mm → Aa) => if a4 < 1 then (k_12 μ) else (if a4 ≤ 4 then (mm_cl (fX6_refusedRow a1 a2 a3 (a4 * 5) μ) (fun (x2 : Int32) (m3 : Mm) => mm_lt x2 (fun (x4 : Int32) => if x4 = 0 then (mm_ck a1 4 (mm_lt 0 (fun (x6 : Int32) => mm_lt (fun (m7 : Mm) => mm_cl (fX6_enlistAll ((53 + a1.toNatClampNeg)) 24 a3 a4 m7) (fun (x8 : Int32) (m9 : Mm) => some (x8, m9))) (fun (k_83 : Mm → Aa) => mm_lt (fun (m10 : Mm) => some ((-2), m10)) (fun (k_74 : Mm → Aa) => mm_lk (fun (_ : Int32) (_ : Mm) => (none : Aa)) (fX6_crowd_L49 a1 a3 a4 k_74 k_83) mm_fu x6 m3))))) else (some (x4, m3))))) else (k_12 μ)))
abbrev rX6_crowd : Room := { frames := 3, cells := 0, slots := 0, locals := 72 }
set_option maxRecDepth 100000 in
set_option maxHeartbeats 8000000 in
theorem tX6_crowd {l : Launch} {D : va_G} {cA : Nat → ClassId} {adr : Nat → Nat} {tt sK sV : Nat → Nat} {qv : Value} (hJ : mm_J adr NX) (a1 : Int32) (a2 : Int32) (a3 : Int32) (a4 : Int32) (μ : Mm) : mm_Mi l D cA adr sX NX (mm_SX (mm_A adr NX) tt sK sV qv) yX6_crowd cX6_crowd 8 (some .int) rX6_crowd [.ref (adr 0), .int a1, .int a2, .int a3, .int a4] μ (fX6_crowd a1 a2 a3 a4 μ) := by
  refine mm_entryi hJ mm_okX (by decide) (Nat.le_of_ble_eq_true rfl) ⟨rfl, rfl⟩ (fun p e s m below meth c X hr => ?_)
  generalize ([.ref (adr 0), .int a1, .int a2, .int a3, .int a4] : List Value).toArray = args at X ⊢
  refine gx_lv (lv' := [(0, .ref (adr 0)), (1, .int a1), (2, .int a2), (3, .int a3), (4, .int a4)]) rfl ?_
  unfold fX6_crowd
  refine gx_iload X 0 2 4 dX6_crowd_0 rfl rfl ?_
  refine gx_iconst X 2 3 (1) dX6_crowd_2 rfl ci_1 ?_
  refine gx_jn (fun (k : Mm → Aa) => ∀ (m1 : Mm), mm_G p l e rX6_crowd s m args below meth c 8 D cA adr sX NX (mm_Qi D cA adr sX NX) m1 12 [] [] (k m1)) ?_ (fun k_12 hk_12 => ?_)
  · intro m1
    refine gx_iconst X 12 13 (-1) dX6_crowd_12 rfl ci_m1 ?_
    exact gx_iret X 13 hr dX6_crowd_13
  refine gx_icmp_lt X 3 12 6 dX6_crowd_3 rfl rfl ?_ ?_
  · refine gx_sub [] rfl ?_
    exact hk_12 μ
  refine gx_iload X 6 8 4 dX6_crowd_6 rfl rfl ?_
  refine gx_iconst X 8 9 (4) dX6_crowd_8 rfl ci_4 ?_
  refine gx_icmp_le X 9 14 12 dX6_crowd_9 rfl rfl ?_ ?_
  · refine gx_aload_n X 14 15 0 dX6_crowd_14 rfl rfl rfl ?_
    refine gx_iload_n X 15 16 1 dX6_crowd_15 rfl rfl rfl ?_
    refine gx_iload_n X 16 17 2 dX6_crowd_16 rfl rfl rfl ?_
    refine gx_iload_n X 17 18 3 dX6_crowd_17 rfl rfl rfl ?_
    refine gx_iload X 18 20 4 dX6_crowd_18 rfl rfl ?_
    refine gx_iconst X 20 21 (5) dX6_crowd_20 rfl ci_5 ?_
    refine gx_imul X 21 22 dX6_crowd_21 rfl ?_
    refine gx_calliV X 22 25 0 (rest := []) (As := [.int a1, .int a2, .int a3, .int (a4 * 5)]) (tX6_refusedRow hJ a1 a2 a3 (a4 * 5) μ) (by decide) rfl rfl wc_X6_refusedRow wl_X6_234 wi_X6_refusedRow ws_X6_refusedRow wn_X6 rfl hd_X6_refusedRow ⟨Nat.le_of_ble_eq_true rfl, Nat.le_of_ble_eq_true rfl⟩ ⟨rfl, rfl⟩ rfl rfl (Nat.le_of_ble_eq_true rfl) dX6_crowd_22 rfl (fun x2 m3 => ?_)
    refine gx_istore X 25 27 (fun x4 => [(5, .int x4), (0, .ref (adr 0)), (1, .int a1), (2, .int a2), (3, .int a3), (4, .int a4)]) dX6_crowd_25 rfl (by decide) (fun _ => rfl) (fun x4 => ?_)
    refine gx_iload X 27 29 0 dX6_crowd_27 rfl rfl ?_
    refine gx_if_eq X 29 35 32 dX6_crowd_29 rfl rfl ?_ ?_
    · refine gx_aload_n X 35 36 1 dX6_crowd_35 rfl rfl rfl ?_
      refine gx_getR X 36 39 0 (by decide) rfl rfl fg_X6_46 dX6_crowd_36 rfl ?_
      refine gx_iload_n X 39 40 2 dX6_crowd_39 rfl rfl rfl ?_
      refine gx_aaload X 40 41 48 (by decide) rfl rfl rfl dX6_crowd_40 rfl (fun h5 => ?_)
      refine gx_getR X 41 44 ((49 + a1.toNatClampNeg)) (sX_sl h5) (sX_s h5) rfl fg_X6_238 dX6_crowd_41 rfl ?_
      refine gx_astore X 44 46 [(6, .ref (adr ((53 + a1.toNatClampNeg)))), (5, .int x4), (0, .ref (adr 0)), (1, .int a1), (2, .int a2), (3, .int a3), (4, .int a4)] dX6_crowd_44 rfl (by decide) rfl ?_
      refine gx_iconst X 46 47 (0) dX6_crowd_46 rfl ci_0 ?_
      refine gx_istore X 47 49 (fun x6 => [(7, .int x6), (6, .ref (adr ((53 + a1.toNatClampNeg)))), (5, .int x4), (0, .ref (adr 0)), (1, .int a1), (2, .int a2), (3, .int a3), (4, .int a4)]) dX6_crowd_47 rfl (by decide) (fun _ => rfl) (fun x6 => ?_)
      refine gx_jn (fun (k : Mm → Aa) => ∀ (m7 : Mm), mm_G p l e rX6_crowd s m args below meth c 8 D cA adr sX NX (mm_Qi D cA adr sX NX) m7 83 [(0, .ref (adr 0)), (3, .int a3), (4, .int a4), (6, .ref (adr ((53 + a1.toNatClampNeg))))] [] (k m7)) ?_ (fun k_83 hk_83 => ?_)
      · intro m7
        refine gx_aload_n X 83 84 0 dX6_crowd_83 rfl rfl rfl ?_
        refine gx_aload X 84 86 3 dX6_crowd_84 rfl rfl ?_
        refine gx_iload_n X 86 87 1 dX6_crowd_86 rfl rfl rfl ?_
        refine gx_iload X 87 89 2 dX6_crowd_87 rfl rfl ?_
        refine gx_calliV X 89 92 0 (rest := []) (As := [.ref (adr ((53 + a1.toNatClampNeg))), .int a3, .int a4]) (tX6_enlistAll hJ ((53 + a1.toNatClampNeg)) 24 a3 a4 (sX_il h5) (sX_i h5) m7) (by decide) rfl rfl wc_X6_enlistAll wl_X6_116 wi_X6_enlistAll ws_X6_enlistAll wn_X6 rfl hd_X6_enlistAll ⟨Nat.le_of_ble_eq_true rfl, Nat.le_of_ble_eq_true rfl⟩ ⟨rfl, rfl⟩ rfl rfl (Nat.le_of_ble_eq_true rfl) dX6_crowd_89 rfl (fun x8 m9 => ?_)
        exact gx_iret X 92 hr dX6_crowd_92
      refine gx_jn (fun (k : Mm → Aa) => ∀ (m10 : Mm), mm_G p l e rX6_crowd s m args below meth c 8 D cA adr sX NX (mm_Qi D cA adr sX NX) m10 74 [] [] (k m10)) ?_ (fun k_74 hk_74 => ?_)
      · intro m10
        refine gx_bipush X 74 76 (-2) dX6_crowd_74 rfl cb_m2 ?_
        exact gx_iret X 76 hr dX6_crowd_76
      refine gx_sub [3, 6, 7, 1, 0] rfl ?_
      refine mm_lk_ind (fun (rec : Int32 → Mm → Aa) => ∀ (x11 : Int32) (m12 : Mm), mm_G p l e rX6_crowd s m args below meth c 8 D cA adr sX NX (mm_Qi D cA adr sX NX) m12 49 [(0, .ref (adr 0)), (3, .int a3), (4, .int a4), (6, .ref (adr ((53 + a1.toNatClampNeg)))), (7, .int x11)] [] (rec x11 m12)) (fun _ _ => gx_none) (fun rec_49 hr_49 x11 m12 => ?_) mm_fu x6 m3
      unfold fX6_crowd_L49
      refine gx_iload X 49 51 4 dX6_crowd_49 rfl rfl ?_
      refine gx_iload X 51 53 2 dX6_crowd_51 rfl rfl ?_
      refine gx_icmp_ge X 53 83 56 dX6_crowd_53 rfl rfl ?_ ?_
      · refine gx_sub [0, 1, 2, 3] rfl ?_
        exact hk_83 m12
      refine gx_aload_n X 56 57 0 dX6_crowd_56 rfl rfl rfl ?_
      refine gx_getR X 57 60 0 (by decide) rfl rfl fg_X6_10 dX6_crowd_57 rfl ?_
      refine gx_aload X 60 62 3 dX6_crowd_60 rfl rfl ?_
      refine gx_iload_n X 62 63 1 dX6_crowd_62 rfl rfl rfl ?_
      refine gx_iload X 63 65 4 dX6_crowd_63 rfl rfl ?_
      refine gx_iconst X 65 66 (5) dX6_crowd_65 rfl ci_5 ?_
      refine gx_imul X 66 67 dX6_crowd_66 rfl ?_
      refine gx_iadd X 67 68 dX6_crowd_67 rfl ?_
      refine gx_calliV X 68 71 1 (rest := []) (As := [.ref (adr ((53 + a1.toNatClampNeg))), .int (a3 + (x11 * 5))]) (tX3_mayCome hJ ((53 + a1.toNatClampNeg)) 24 (a3 + (x11 * 5)) (sX_il h5) (sX_i h5) m12) (by decide) rfl rfl wc_X3_mayCome wl_X6_68 wi_X3_mayCome ws_X3_mayCome wn_X3 rfl hd_X3_mayCome ⟨Nat.le_of_ble_eq_true rfl, Nat.le_of_ble_eq_true rfl⟩ ⟨rfl, rfl⟩ rfl rfl (Nat.le_of_ble_eq_true rfl) dX6_crowd_68 rfl (fun x13 m14 => ?_)
      refine gx_if_ne X 71 77 74 dX6_crowd_71 rfl rfl ?_ ?_
      · refine gx_iinc X 77 80 4 (1) (fun x15 => [(7, .int x15), (0, .ref (adr 0)), (3, .int a3), (4, .int a4), (6, .ref (adr ((53 + a1.toNatClampNeg))))]) dX6_crowd_77 rfl rfl ci_1 (by decide) (fun _ => rfl) (fun x15 => ?_)
        refine gx_goto X 80 49 dX6_crowd_80 rfl ?_
        refine gx_sub [1, 2, 3, 4, 0] rfl ?_
        exact hr_49 x15 m14
      refine gx_sub [] rfl ?_
      exact hk_74 m14
    refine gx_iload X 32 34 0 dX6_crowd_32 rfl rfl ?_
    exact gx_iret X 34 hr dX6_crowd_34
  refine gx_sub [] rfl ?_
  exact hk_12 μ
def fX6_sheet (a1 : Int32) (a2 : Int32) (a3 : Int32) (μ : Mm) : Aa := mm_cl (fX6_isWithin a1 4 μ) (fun (x1 : Int32) (m2 : Mm) => mm_lt (fun (m3 : Mm) => some ((-1), m3)) (fun (k_23 : Mm → Aa) => if x1 = 0 then (k_23 m2) else (if a2 < 0 then (k_23 m2) else (if 2 < a2 then (k_23 m2) else (if a3 ≤ 24 then (if 0 ≤ a3 then (mm_ck a1 4 (mm_cl (fX2_begin ((49 + a1.toNatClampNeg)) ((53 + a1.toNatClampNeg)) a2 a3 m2) (fun (x5 : Int32) (m6 : Mm) => some (a3, m6)))) else (some ((-14), m2))) else (k_23 m2))))))
abbrev rX6_sheet : Room := { frames := 1, cells := 0, slots := 0, locals := 23 }
set_option maxRecDepth 100000 in
set_option maxHeartbeats 8000000 in
theorem tX6_sheet {l : Launch} {D : va_G} {cA : Nat → ClassId} {adr : Nat → Nat} {tt sK sV : Nat → Nat} {qv : Value} (hJ : mm_J adr NX) (a1 : Int32) (a2 : Int32) (a3 : Int32) (μ : Mm) : mm_Mi l D cA adr sX NX (mm_SX (mm_A adr NX) tt sK sV qv) yX6_sheet cX6_sheet 4 (some .int) rX6_sheet [.ref (adr 0), .int a1, .int a2, .int a3] μ (fX6_sheet a1 a2 a3 μ) := by
  refine mm_entryi hJ mm_okX (by decide) (Nat.le_of_ble_eq_true rfl) ⟨rfl, rfl⟩ (fun p e s m below meth c X hr => ?_)
  generalize ([.ref (adr 0), .int a1, .int a2, .int a3] : List Value).toArray = args at X ⊢
  refine gx_lv (lv' := [(0, .ref (adr 0)), (1, .int a1), (2, .int a2), (3, .int a3)]) rfl ?_
  unfold fX6_sheet
  refine gx_iload_n X 0 1 1 dX6_sheet_0 rfl rfl rfl ?_
  refine gx_iconst X 1 2 (4) dX6_sheet_1 rfl ci_4 ?_
  refine gx_calliS X 2 5 (rest := []) (As := [.int a1, .int 4]) (tX6_isWithin hJ a1 4 μ) wc_X6_isWithin wl_X6_55 wt_X6_isWithin wn_X6 hd_X6_isWithin ⟨Nat.le_of_ble_eq_true rfl, Nat.le_of_ble_eq_true rfl⟩ ⟨rfl, rfl⟩ rfl rfl (Nat.le_of_ble_eq_true rfl) dX6_sheet_2 rfl (fun x1 m2 => ?_)
  refine gx_jn (fun (k : Mm → Aa) => ∀ (m3 : Mm), mm_G p l e rX6_sheet s m args below meth c 4 D cA adr sX NX (mm_Qi D cA adr sX NX) m3 23 [] [] (k m3)) ?_ (fun k_23 hk_23 => ?_)
  · intro m3
    refine gx_iconst X 23 24 (-1) dX6_sheet_23 rfl ci_m1 ?_
    exact gx_iret X 24 hr dX6_sheet_24
  refine gx_if_eq X 5 23 8 dX6_sheet_5 rfl rfl ?_ ?_
  · refine gx_sub [] rfl ?_
    exact hk_23 m2
  refine gx_iload_n X 8 9 2 dX6_sheet_8 rfl rfl rfl ?_
  refine gx_if_lt X 9 23 12 dX6_sheet_9 rfl rfl ?_ ?_
  · refine gx_sub [] rfl ?_
    exact hk_23 m2
  refine gx_iload_n X 12 13 2 dX6_sheet_12 rfl rfl rfl ?_
  refine gx_iconst X 13 14 (2) dX6_sheet_13 rfl ci_2 ?_
  refine gx_icmp_gt X 14 23 17 dX6_sheet_14 rfl rfl ?_ ?_
  · refine gx_sub [] rfl ?_
    exact hk_23 m2
  refine gx_iload_n X 17 18 3 dX6_sheet_17 rfl rfl rfl ?_
  refine gx_bipush X 18 20 (24) dX6_sheet_18 rfl cb_24 ?_
  refine gx_icmp_le X 20 25 23 dX6_sheet_20 rfl rfl ?_ ?_
  · refine gx_iload_n X 25 26 3 dX6_sheet_25 rfl rfl rfl ?_
    refine gx_if_ge X 26 32 29 dX6_sheet_26 rfl rfl ?_ ?_
    · refine gx_aload_n X 32 33 0 dX6_sheet_32 rfl rfl rfl ?_
      refine gx_getR X 33 36 0 (by decide) rfl rfl fg_X6_46 dX6_sheet_33 rfl ?_
      refine gx_iload_n X 36 37 1 dX6_sheet_36 rfl rfl rfl ?_
      refine gx_aaload X 37 38 48 (by decide) rfl rfl rfl dX6_sheet_37 rfl (fun h4 => ?_)
      refine gx_iload_n X 38 39 2 dX6_sheet_38 rfl rfl rfl ?_
      refine gx_iload_n X 39 40 3 dX6_sheet_39 rfl rfl rfl ?_
      refine gx_callvV X 40 43 ((49 + a1.toNatClampNeg)) (rest := []) (As := [.int a2, .int a3]) (tX2_begin hJ ((49 + a1.toNatClampNeg)) ((53 + a1.toNatClampNeg)) a2 a3 (sX_sl h4) (sX_s h4) (sX_il h4) (sX_i h4) m2) (sX_sl h4) (sX_s h4) rfl wc_X2_begin wl_X6_241 wi_X2_begin ws_X2_begin wn_X2 rfl hd_X2_begin ⟨Nat.le_of_ble_eq_true rfl, Nat.le_of_ble_eq_true rfl⟩ ⟨rfl, rfl⟩ rfl rfl (Nat.le_of_ble_eq_true rfl) dX6_sheet_40 rfl (fun x5 m6 => ?_)
      refine gx_iload_n X 43 44 3 dX6_sheet_43 rfl rfl rfl ?_
      exact gx_iret X 44 hr dX6_sheet_44
    refine gx_bipush X 29 31 (-14) dX6_sheet_29 rfl cb_m14 ?_
    exact gx_iret X 31 hr dX6_sheet_31
  refine gx_sub [] rfl ?_
  exact hk_23 m2
def fX6_drop (a1 : Int32) (μ : Mm) : Aa := mm_cl (fX6_isWithin a1 4 μ) (fun (x1 : Int32) (m2 : Mm) => if x1 = 0 then (some ((-1), m2)) else (mm_ck a1 4 (if (m2 ((49 + a1.toNatClampNeg)) 0) = ((-1)) then (some ((-11), m2)) else (mm_ck a1 4 (mm_lt (m2 ((49 + a1.toNatClampNeg)) 1) (fun (x5 : Int32) => mm_ck a1 4 (mm_cl (fX2_begin ((49 + a1.toNatClampNeg)) ((53 + a1.toNatClampNeg)) ((-1)) 0 m2) (fun (x7 : Int32) (m8 : Mm) => some (x5, m8)))))))))
abbrev rX6_drop : Room := { frames := 1, cells := 0, slots := 0, locals := 23 }
set_option maxRecDepth 100000 in
set_option maxHeartbeats 8000000 in
theorem tX6_drop {l : Launch} {D : va_G} {cA : Nat → ClassId} {adr : Nat → Nat} {tt sK sV : Nat → Nat} {qv : Value} (hJ : mm_J adr NX) (a1 : Int32) (μ : Mm) : mm_Mi l D cA adr sX NX (mm_SX (mm_A adr NX) tt sK sV qv) yX6_drop cX6_drop 3 (some .int) rX6_drop [.ref (adr 0), .int a1] μ (fX6_drop a1 μ) := by
  refine mm_entryi hJ mm_okX (by decide) (Nat.le_of_ble_eq_true rfl) ⟨rfl, rfl⟩ (fun p e s m below meth c X hr => ?_)
  generalize ([.ref (adr 0), .int a1] : List Value).toArray = args at X ⊢
  refine gx_lv (lv' := [(0, .ref (adr 0)), (1, .int a1)]) rfl ?_
  unfold fX6_drop
  refine gx_iload_n X 0 1 1 dX6_drop_0 rfl rfl rfl ?_
  refine gx_iconst X 1 2 (4) dX6_drop_1 rfl ci_4 ?_
  refine gx_calliS X 2 5 (rest := []) (As := [.int a1, .int 4]) (tX6_isWithin hJ a1 4 μ) wc_X6_isWithin wl_X6_55 wt_X6_isWithin wn_X6 hd_X6_isWithin ⟨Nat.le_of_ble_eq_true rfl, Nat.le_of_ble_eq_true rfl⟩ ⟨rfl, rfl⟩ rfl rfl (Nat.le_of_ble_eq_true rfl) dX6_drop_2 rfl (fun x1 m2 => ?_)
  refine gx_if_ne X 5 10 8 dX6_drop_5 rfl rfl ?_ ?_
  · refine gx_aload_n X 10 11 0 dX6_drop_10 rfl rfl rfl ?_
    refine gx_getR X 11 14 0 (by decide) rfl rfl fg_X6_46 dX6_drop_11 rfl ?_
    refine gx_iload_n X 14 15 1 dX6_drop_14 rfl rfl rfl ?_
    refine gx_aaload X 15 16 48 (by decide) rfl rfl rfl dX6_drop_15 rfl (fun h3 => ?_)
    refine gx_getI X 16 19 ((49 + a1.toNatClampNeg)) (sX_sl h3) (sX_s h3) rfl fg_X6_245 dX6_drop_16 rfl ?_
    refine gx_iconst X 19 20 (-1) dX6_drop_19 rfl ci_m1 ?_
    refine gx_icmp_ne X 20 26 23 dX6_drop_20 rfl rfl ?_ ?_
    · refine gx_aload_n X 26 27 0 dX6_drop_26 rfl rfl rfl ?_
      refine gx_getR X 27 30 0 (by decide) rfl rfl fg_X6_46 dX6_drop_27 rfl ?_
      refine gx_iload_n X 30 31 1 dX6_drop_30 rfl rfl rfl ?_
      refine gx_aaload X 31 32 48 (by decide) rfl rfl rfl dX6_drop_31 rfl (fun h4 => ?_)
      refine gx_getI X 32 35 ((49 + a1.toNatClampNeg)) (sX_sl h4) (sX_s h4) rfl fg_X6_248 dX6_drop_32 rfl ?_
      refine gx_istore_n X 35 36 (fun x5 => [(2, .int x5), (0, .ref (adr 0)), (1, .int a1)]) dX6_drop_35 rfl rfl (by decide) (fun _ => rfl) (fun x5 => ?_)
      refine gx_aload_n X 36 37 1 dX6_drop_36 rfl rfl rfl ?_
      refine gx_getR X 37 40 0 (by decide) rfl rfl fg_X6_46 dX6_drop_37 rfl ?_
      refine gx_iload_n X 40 41 2 dX6_drop_40 rfl rfl rfl ?_
      refine gx_aaload X 41 42 48 (by decide) rfl rfl rfl dX6_drop_41 rfl (fun h6 => ?_)
      refine gx_iconst X 42 43 (-1) dX6_drop_42 rfl ci_m1 ?_
      refine gx_iconst X 43 44 (0) dX6_drop_43 rfl ci_0 ?_
      refine gx_callvV X 44 47 ((49 + a1.toNatClampNeg)) (rest := []) (As := [.int ((-1)), .int 0]) (tX2_begin hJ ((49 + a1.toNatClampNeg)) ((53 + a1.toNatClampNeg)) ((-1)) 0 (sX_sl h6) (sX_s h6) (sX_il h6) (sX_i h6) m2) (sX_sl h6) (sX_s h6) rfl wc_X2_begin wl_X6_241 wi_X2_begin ws_X2_begin wn_X2 rfl hd_X2_begin ⟨Nat.le_of_ble_eq_true rfl, Nat.le_of_ble_eq_true rfl⟩ ⟨rfl, rfl⟩ rfl rfl (Nat.le_of_ble_eq_true rfl) dX6_drop_44 rfl (fun x7 m8 => ?_)
      refine gx_iload_n X 47 48 0 dX6_drop_47 rfl rfl rfl ?_
      exact gx_iret X 48 hr dX6_drop_48
    refine gx_bipush X 23 25 (-11) dX6_drop_23 rfl cb_m11 ?_
    exact gx_iret X 25 hr dX6_drop_25
  refine gx_iconst X 8 9 (-1) dX6_drop_8 rfl ci_m1 ?_
  exact gx_iret X 9 hr dX6_drop_9
def fX6_item (a1 : Int32) (a2 : Int32) (a3 : Int32) (a4 : Int32) (μ : Mm) : Aa := mm_cl (fX6_refusedRow a1 a2 a3 1 μ) (fun (x1 : Int32) (m2 : Mm) => mm_lt x1 (fun (x3 : Int32) => if x3 = 0 then (mm_ck a1 4 (mm_cl (fX2_put ((49 + a1.toNatClampNeg)) ((53 + a1.toNatClampNeg)) a3 a4 m2) (fun (x5 : Int32) (m6 : Mm) => some (1, m6)))) else (some (x3, m2))))
abbrev rX6_item : Room := { frames := 2, cells := 0, slots := 0, locals := 46 }
set_option maxRecDepth 100000 in
set_option maxHeartbeats 8000000 in
theorem tX6_item {l : Launch} {D : va_G} {cA : Nat → ClassId} {adr : Nat → Nat} {tt sK sV : Nat → Nat} {qv : Value} (hJ : mm_J adr NX) (a1 : Int32) (a2 : Int32) (a3 : Int32) (a4 : Int32) (μ : Mm) : mm_Mi l D cA adr sX NX (mm_SX (mm_A adr NX) tt sK sV qv) yX6_item cX6_item 6 (some .int) rX6_item [.ref (adr 0), .int a1, .int a2, .int a3, .int a4] μ (fX6_item a1 a2 a3 a4 μ) := by
  refine mm_entryi hJ mm_okX (by decide) (Nat.le_of_ble_eq_true rfl) ⟨rfl, rfl⟩ (fun p e s m below meth c X hr => ?_)
  generalize ([.ref (adr 0), .int a1, .int a2, .int a3, .int a4] : List Value).toArray = args at X ⊢
  refine gx_lv (lv' := [(0, .ref (adr 0)), (1, .int a1), (2, .int a2), (3, .int a3), (4, .int a4)]) rfl ?_
  unfold fX6_item
  refine gx_aload_n X 0 1 0 dX6_item_0 rfl rfl rfl ?_
  refine gx_iload_n X 1 2 1 dX6_item_1 rfl rfl rfl ?_
  refine gx_iload_n X 2 3 2 dX6_item_2 rfl rfl rfl ?_
  refine gx_iload_n X 3 4 3 dX6_item_3 rfl rfl rfl ?_
  refine gx_iconst X 4 5 (1) dX6_item_4 rfl ci_1 ?_
  refine gx_calliV X 5 8 0 (rest := []) (As := [.int a1, .int a2, .int a3, .int 1]) (tX6_refusedRow hJ a1 a2 a3 1 μ) (by decide) rfl rfl wc_X6_refusedRow wl_X6_234 wi_X6_refusedRow ws_X6_refusedRow wn_X6 rfl hd_X6_refusedRow ⟨Nat.le_of_ble_eq_true rfl, Nat.le_of_ble_eq_true rfl⟩ ⟨rfl, rfl⟩ rfl rfl (Nat.le_of_ble_eq_true rfl) dX6_item_5 rfl (fun x1 m2 => ?_)
  refine gx_istore X 8 10 (fun x3 => [(5, .int x3), (0, .ref (adr 0)), (1, .int a1), (2, .int a2), (3, .int a3), (4, .int a4)]) dX6_item_8 rfl (by decide) (fun _ => rfl) (fun x3 => ?_)
  refine gx_iload X 10 12 0 dX6_item_10 rfl rfl ?_
  refine gx_if_eq X 12 18 15 dX6_item_12 rfl rfl ?_ ?_
  · refine gx_aload_n X 18 19 1 dX6_item_18 rfl rfl rfl ?_
    refine gx_getR X 19 22 0 (by decide) rfl rfl fg_X6_46 dX6_item_19 rfl ?_
    refine gx_iload_n X 22 23 2 dX6_item_22 rfl rfl rfl ?_
    refine gx_aaload X 23 24 48 (by decide) rfl rfl rfl dX6_item_23 rfl (fun h4 => ?_)
    refine gx_iload_n X 24 25 4 dX6_item_24 rfl rfl rfl ?_
    refine gx_iload X 25 27 5 dX6_item_25 rfl rfl ?_
    refine gx_callvV X 27 30 ((49 + a1.toNatClampNeg)) (rest := []) (As := [.int a3, .int a4]) (tX2_put hJ ((49 + a1.toNatClampNeg)) ((53 + a1.toNatClampNeg)) a3 a4 (sX_sl h4) (sX_s h4) (sX_il h4) (sX_i h4) m2) (sX_sl h4) (sX_s h4) rfl wc_X2_put wl_X6_249 wi_X2_put ws_X2_put wn_X2 rfl hd_X2_put ⟨Nat.le_of_ble_eq_true rfl, Nat.le_of_ble_eq_true rfl⟩ ⟨rfl, rfl⟩ rfl rfl (Nat.le_of_ble_eq_true rfl) dX6_item_27 rfl (fun x5 m6 => ?_)
    refine gx_iconst X 30 31 (1) dX6_item_30 rfl ci_1 ?_
    exact gx_iret X 31 hr dX6_item_31
  refine gx_iload X 15 17 0 dX6_item_15 rfl rfl ?_
  exact gx_iret X 17 hr dX6_item_17
def fX6_film_L48 (a1 : Int32) (a3 : Int32) (k_92 : Mm → Aa) (rec_48 : Int32 → Mm → Aa) (x10 : Int32) (m11 : Mm) : Aa := if (m11 1 1) ≤ x10 then (k_92 m11) else (mm_ck a1 4 (mm_ck x10 10 (mm_cl (fX2_put ((49 + a1.toNatClampNeg)) ((53 + a1.toNatClampNeg)) (a3 + x10) (m11 ((34 + x10.toNatClampNeg)) 14) m11) (fun (x14 : Int32) (m15 : Mm) => mm_lt (x10 + 1) (fun (x16 : Int32) => rec_48 x16 m15)))))
def fX6_film (a1 : Int32) (a2 : Int32) (a3 : Int32) (μ : Mm) : Aa := mm_cl (fX6_refusedRow a1 a2 a3 (μ 1 1) μ) (fun (x1 : Int32) (m2 : Mm) => mm_lt x1 (fun (x3 : Int32) => if x3 = 0 then (mm_cl (fX0_load m2) (fun (x4 : Int32) (m5 : Mm) => mm_cl (fX0_run 999 m5) (fun (x6 : Int32) (m7 : Mm) => mm_lt 0 (fun (x8 : Int32) => mm_lt (fun (m9 : Mm) => some (m9 1 1, m9)) (fun (k_92 : Mm → Aa) => mm_lk (fun (_ : Int32) (_ : Mm) => (none : Aa)) (fX6_film_L48 a1 a3 k_92) mm_fu x8 m7))))) else (some (x3, m2))))
abbrev rX6_film : Room := { frames := 5, cells := 0, slots := 0, locals := 110 }
set_option maxRecDepth 100000 in
set_option maxHeartbeats 8000000 in
theorem tX6_film {l : Launch} {D : va_G} {cA : Nat → ClassId} {adr : Nat → Nat} {tt sK sV : Nat → Nat} {qv : Value} (hJ : mm_J adr NX) (a1 : Int32) (a2 : Int32) (a3 : Int32) (μ : Mm) : mm_Mi l D cA adr sX NX (mm_SX (mm_A adr NX) tt sK sV qv) yX6_film cX6_film 6 (some .int) rX6_film [.ref (adr 0), .int a1, .int a2, .int a3] μ (fX6_film a1 a2 a3 μ) := by
  refine mm_entryi hJ mm_okX (by decide) (Nat.le_of_ble_eq_true rfl) ⟨rfl, rfl⟩ (fun p e s m below meth c X hr => ?_)
  generalize ([.ref (adr 0), .int a1, .int a2, .int a3] : List Value).toArray = args at X ⊢
  refine gx_lv (lv' := [(0, .ref (adr 0)), (1, .int a1), (2, .int a2), (3, .int a3)]) rfl ?_
  unfold fX6_film
  refine gx_aload_n X 0 1 0 dX6_film_0 rfl rfl rfl ?_
  refine gx_iload_n X 1 2 1 dX6_film_1 rfl rfl rfl ?_
  refine gx_iload_n X 2 3 2 dX6_film_2 rfl rfl rfl ?_
  refine gx_iload_n X 3 4 3 dX6_film_3 rfl rfl rfl ?_
  refine gx_aload_n X 4 5 0 dX6_film_4 rfl rfl rfl ?_
  refine gx_getR X 5 8 0 (by decide) rfl rfl fg_X6_10 dX6_film_5 rfl ?_
  refine gx_getI X 8 11 1 (by decide) rfl rfl fg_X6_80 dX6_film_8 rfl ?_
  refine gx_calliV X 11 14 0 (rest := []) (As := [.int a1, .int a2, .int a3, .int (μ 1 1)]) (tX6_refusedRow hJ a1 a2 a3 (μ 1 1) μ) (by decide) rfl rfl wc_X6_refusedRow wl_X6_234 wi_X6_refusedRow ws_X6_refusedRow wn_X6 rfl hd_X6_refusedRow ⟨Nat.le_of_ble_eq_true rfl, Nat.le_of_ble_eq_true rfl⟩ ⟨rfl, rfl⟩ rfl rfl (Nat.le_of_ble_eq_true rfl) dX6_film_11 rfl (fun x1 m2 => ?_)
  refine gx_istore X 14 16 (fun x3 => [(4, .int x3), (0, .ref (adr 0)), (1, .int a1), (2, .int a2), (3, .int a3)]) dX6_film_14 rfl (by decide) (fun _ => rfl) (fun x3 => ?_)
  refine gx_iload X 16 18 0 dX6_film_16 rfl rfl ?_
  refine gx_if_eq X 18 24 21 dX6_film_18 rfl rfl ?_ ?_
  · refine gx_aload_n X 24 25 1 dX6_film_24 rfl rfl rfl ?_
    refine gx_getR X 25 28 0 (by decide) rfl rfl fg_X6_33 dX6_film_25 rfl ?_
    refine gx_aload_n X 28 29 1 dX6_film_28 rfl rfl rfl ?_
    refine gx_getR X 29 32 0 (by decide) rfl rfl fg_X6_10 dX6_film_29 rfl ?_
    refine gx_callvV X 32 35 30 (rest := []) (As := [.ref (adr 1)]) (tX0_load hJ m2) (by decide) rfl rfl wc_X0_load wl_X6_120 wi_X0_load ws_X0_load wn_X0 rfl hd_X0_load ⟨Nat.le_of_ble_eq_true rfl, Nat.le_of_ble_eq_true rfl⟩ ⟨rfl, rfl⟩ rfl rfl (Nat.le_of_ble_eq_true rfl) dX6_film_32 rfl (fun x4 m5 => ?_)
    refine gx_aload_n X 35 36 1 dX6_film_35 rfl rfl rfl ?_
    refine gx_getR X 36 39 0 (by decide) rfl rfl fg_X6_33 dX6_film_36 rfl ?_
    refine gx_sipush X 39 42 (999) dX6_film_39 rfl cs_999 ?_
    refine gx_callvV X 42 45 30 (rest := []) (As := [.int 999]) (tX0_run hJ 999 m5) (by decide) rfl rfl wc_X0_run wl_X6_124 wi_X0_run ws_X0_run wn_X0 rfl hd_X0_run ⟨Nat.le_of_ble_eq_true rfl, Nat.le_of_ble_eq_true rfl⟩ ⟨rfl, rfl⟩ rfl rfl (Nat.le_of_ble_eq_true rfl) dX6_film_42 rfl (fun x6 m7 => ?_)
    refine gx_iconst X 45 46 (0) dX6_film_45 rfl ci_0 ?_
    refine gx_istore X 46 48 (fun x8 => [(5, .int x8), (4, .int x3), (0, .ref (adr 0)), (1, .int a1), (2, .int a2), (3, .int a3)]) dX6_film_46 rfl (by decide) (fun _ => rfl) (fun x8 => ?_)
    refine gx_jn (fun (k : Mm → Aa) => ∀ (m9 : Mm), mm_G p l e rX6_film s m args below meth c 6 D cA adr sX NX (mm_Qi D cA adr sX NX) m9 92 [(0, .ref (adr 0))] [] (k m9)) ?_ (fun k_92 hk_92 => ?_)
    · intro m9
      refine gx_aload_n X 92 93 0 dX6_film_92 rfl rfl rfl ?_
      refine gx_getR X 93 96 0 (by decide) rfl rfl fg_X6_10 dX6_film_93 rfl ?_
      refine gx_getI X 96 99 1 (by decide) rfl rfl fg_X6_80 dX6_film_96 rfl ?_
      exact gx_iret X 99 hr dX6_film_99
    refine gx_sub [2, 3, 5, 0] rfl ?_
    refine mm_lk_ind (fun (rec : Int32 → Mm → Aa) => ∀ (x10 : Int32) (m11 : Mm), mm_G p l e rX6_film s m args below meth c 6 D cA adr sX NX (mm_Qi D cA adr sX NX) m11 48 [(0, .ref (adr 0)), (1, .int a1), (3, .int a3), (5, .int x10)] [] (rec x10 m11)) (fun _ _ => gx_none) (fun rec_48 hr_48 x10 m11 => ?_) mm_fu x8 m7
    unfold fX6_film_L48
    refine gx_iload X 48 50 3 dX6_film_48 rfl rfl ?_
    refine gx_aload_n X 50 51 0 dX6_film_50 rfl rfl rfl ?_
    refine gx_getR X 51 54 0 (by decide) rfl rfl fg_X6_10 dX6_film_51 rfl ?_
    refine gx_getI X 54 57 1 (by decide) rfl rfl fg_X6_80 dX6_film_54 rfl ?_
    refine gx_icmp_ge X 57 92 60 dX6_film_57 rfl rfl ?_ ?_
    · refine gx_sub [0] rfl ?_
      exact hk_92 m11
    refine gx_aload_n X 60 61 0 dX6_film_60 rfl rfl rfl ?_
    refine gx_getR X 61 64 0 (by decide) rfl rfl fg_X6_46 dX6_film_61 rfl ?_
    refine gx_iload_n X 64 65 1 dX6_film_64 rfl rfl rfl ?_
    refine gx_aaload X 65 66 48 (by decide) rfl rfl rfl dX6_film_65 rfl (fun h12 => ?_)
    refine gx_iload_n X 66 67 2 dX6_film_66 rfl rfl rfl ?_
    refine gx_iload X 67 69 3 dX6_film_67 rfl rfl ?_
    refine gx_iadd X 69 70 dX6_film_69 rfl ?_
    refine gx_aload_n X 70 71 0 dX6_film_70 rfl rfl rfl ?_
    refine gx_getR X 71 74 0 (by decide) rfl rfl fg_X6_33 dX6_film_71 rfl ?_
    refine gx_getR X 74 77 30 (by decide) rfl rfl fg_X6_127 dX6_film_74 rfl ?_
    refine gx_iload X 77 79 3 dX6_film_77 rfl rfl ?_
    refine gx_aaload X 79 80 31 (by decide) rfl rfl rfl dX6_film_79 rfl (fun h13 => ?_)
    refine gx_getI X 80 83 ((34 + x10.toNatClampNeg)) (sX_wl h13) (sX_w h13) rfl fg_X6_136 dX6_film_80 rfl ?_
    refine gx_callvV X 83 86 ((49 + a1.toNatClampNeg)) (rest := []) (As := [.int (a3 + x10), .int (m11 ((34 + x10.toNatClampNeg)) 14)]) (tX2_put hJ ((49 + a1.toNatClampNeg)) ((53 + a1.toNatClampNeg)) (a3 + x10) (m11 ((34 + x10.toNatClampNeg)) 14) (sX_sl h12) (sX_s h12) (sX_il h12) (sX_i h12) m11) (sX_sl h12) (sX_s h12) rfl wc_X2_put wl_X6_249 wi_X2_put ws_X2_put wn_X2 rfl hd_X2_put ⟨Nat.le_of_ble_eq_true rfl, Nat.le_of_ble_eq_true rfl⟩ ⟨rfl, rfl⟩ rfl rfl (Nat.le_of_ble_eq_true rfl) dX6_film_83 rfl (fun x14 m15 => ?_)
    refine gx_iinc X 86 89 3 (1) (fun x16 => [(5, .int x16), (0, .ref (adr 0)), (1, .int a1), (3, .int a3)]) dX6_film_86 rfl rfl ci_1 (by decide) (fun _ => rfl) (fun x16 => ?_)
    refine gx_goto X 89 48 dX6_film_89 rfl ?_
    refine gx_sub [1, 2, 3, 0] rfl ?_
    exact hr_48 x16 m15
  refine gx_iload X 21 23 0 dX6_film_21 rfl rfl ?_
  exact gx_iret X 23 hr dX6_film_23
