def fX7_order_L73 (a2 : Int32) (k_96 : Mm → Aa) (rec_73 : Int32 → Mm → Aa) (x15 : Int32) (m16 : Mm) : Aa := if x15 = 0 then (k_96 m16) else (mm_cl (fX7_goOrder a2 m16) (fun (x17 : Int32) (m18 : Mm) => mm_cl (fX7_judge m18) (fun (x19 : Int32) (m20 : Mm) => mm_cl (fX7_nextOrder m20) (fun (x21 : Int32) (m22 : Mm) => mm_lt x21 (fun (x23 : Int32) => rec_73 x23 m22)))))
def fX7_order_L43 (k_65 : Mm → Aa) (rec_43 : Int32 → Mm → Aa) (x24 : Int32) (m25 : Mm) : Aa := if 6 ≤ x24 then (k_65 m25) else (mm_ck x24 6 (mm_lt (mm_wr m25 20 x24.toNatClampNeg x24) (fun (m26 : Mm) => mm_lt (x24 + 1) (fun (x27 : Int32) => rec_43 x27 m26))))
def fX7_order (a1 : Int32) (a2 : Int32) (a3 : Int32) (μ : Mm) : Aa := mm_cl (fX7_takeSome a1 μ) (fun (x1 : Int32) (m2 : Mm) => mm_lt (fun (m3 : Mm) => some ((-1), m3)) (fun (k_38 : Mm → Aa) => if x1 = 0 then (k_38 m2) else (mm_cl (fX7_in a2.toInt64 0 60 m2) (fun (x4 : Int32) (m5 : Mm) => if x4 = 0 then (k_38 m5) else (mm_cl (fX7_in a3.toInt64 ((-2)) (((m5 0 29) - 1).toInt64) m5) (fun (x6 : Int32) (m7 : Mm) => if x6 = 0 then (k_38 m7) else (mm_lt 0 (fun (x8 : Int32) => mm_lt (fun (m9 : Mm) => mm_lt (mm_wr m9 0 33 ((-1))) (fun (m10 : Mm) => mm_lt 1 (fun (x11 : Int32) => mm_lt (fun (m12 : Mm) => mm_lt (fun (x13 : Int32) (m14 : Mm) => some (x13, m14)) (fun (k_132 : Int32 → Mm → Aa) => if a3 = ((-1)) then (k_132 (m12 0 33) m12) else (if a3 = ((-2)) then (k_132 (m12 0 34) m12) else (mm_ck a3 6 (mm_ck (m12 21 a3.toNatClampNeg) 6 (k_132 (m12 19 (m12 21 a3.toNatClampNeg).toNatClampNeg) m12)))))) (fun (k_96 : Mm → Aa) => mm_lk (fun (_ : Int32) (_ : Mm) => (none : Aa)) (fX7_order_L73 a2 k_96) mm_fu x11 m10)))) (fun (k_65 : Mm → Aa) => mm_lk (fun (_ : Int32) (_ : Mm) => (none : Aa)) (fX7_order_L43 k_65) mm_fu x8 m7)))))))))
abbrev rX7_order : Room := { frames := 4, cells := 0, slots := 0, locals := 92 }
set_option maxRecDepth 100000 in
set_option maxHeartbeats 8000000 in
theorem tX7_order {l : Launch} {D : va_G} {cA : Nat → ClassId} {adr : Nat → Nat} (hJ : mm_J adr NM) (a1 : Int32) (a2 : Int32) (a3 : Int32) (μ : Mm) : mm_Mi l D cA adr sM NM mm_SM yX7_order cX7_order 5 (some .int) rX7_order [.ref (adr 0), .int a1, .int a2, .int a3] μ (fX7_order a1 a2 a3 μ) := by
  refine mm_entryi hJ mm_okM (by decide) (Nat.le_of_ble_eq_true rfl) ⟨rfl, rfl⟩ (fun p e s m below meth c X hr => ?_)
  generalize ([.ref (adr 0), .int a1, .int a2, .int a3] : List Value).toArray = args at X ⊢
  refine gx_lv (lv' := [(0, .ref (adr 0)), (1, .int a1), (2, .int a2), (3, .int a3)]) rfl ?_
  unfold fX7_order
  refine gx_aload_n X 0 1 0 dX7_order_0 rfl rfl rfl ?_
  refine gx_iload_n X 1 2 1 dX7_order_1 rfl rfl rfl ?_
  refine gx_calliV X 2 5 0 (rest := []) (As := [.int a1]) (tX7_takeSome hJ a1 μ) (by decide) rfl rfl wc_X7_takeSome wl_X7_280 wi_X7_takeSome ws_X7_takeSome wn_X7 rfl hd_X7_takeSome ⟨Nat.le_of_ble_eq_true rfl, Nat.le_of_ble_eq_true rfl⟩ ⟨rfl, rfl⟩ rfl rfl (Nat.le_of_ble_eq_true rfl) dX7_order_2 rfl (fun x1 m2 => ?_)
  refine gx_jn (fun (k : Mm → Aa) => ∀ (m3 : Mm), mm_G p l e rX7_order s m args below meth c 5 D cA adr sM NM (mm_Qi D cA adr sM NM) m3 38 [] [] (k m3)) ?_ (fun k_38 hk_38 => ?_)
  · intro m3
    refine gx_iconst X 38 39 (-1) dX7_order_38 rfl ci_m1 ?_
    exact gx_iret X 39 hr dX7_order_39
  refine gx_if_eq X 5 38 8 dX7_order_5 rfl rfl ?_ ?_
  · refine gx_sub [] rfl ?_
    exact hk_38 m2
  refine gx_iload_n X 8 9 2 dX7_order_8 rfl rfl rfl ?_
  refine gx_i2l X 9 10 dX7_order_9 rfl ?_
  refine gx_lconst X 10 11 (0) dX7_order_10 rfl cl_0 ?_
  refine gx_ldc2_w X 11 14 wk_X7_143 dX7_order_11 rfl ?_
  refine gx_calliS X 14 17 (rest := []) (As := [.long a2.toInt64, .long 0, .long 60]) (tX7_in hJ a2.toInt64 0 60 m2) wc_X7_in wl_X7_101 wt_X7_in wn_X7 hd_X7_in ⟨Nat.le_of_ble_eq_true rfl, Nat.le_of_ble_eq_true rfl⟩ ⟨rfl, rfl⟩ rfl rfl (Nat.le_of_ble_eq_true rfl) dX7_order_14 rfl (fun x4 m5 => ?_)
  refine gx_if_eq X 17 38 20 dX7_order_17 rfl rfl ?_ ?_
  · refine gx_sub [] rfl ?_
    exact hk_38 m5
  refine gx_iload_n X 20 21 3 dX7_order_20 rfl rfl rfl ?_
  refine gx_i2l X 21 22 dX7_order_21 rfl ?_
  refine gx_ldc2_w X 22 25 wk_X7_283 dX7_order_22 rfl ?_
  refine gx_aload_n X 25 26 0 dX7_order_25 rfl rfl rfl ?_
  refine gx_getI X 26 29 0 (by decide) rfl rfl fg_X7_259 dX7_order_26 rfl ?_
  refine gx_iconst X 29 30 (1) dX7_order_29 rfl ci_1 ?_
  refine gx_isub X 30 31 dX7_order_30 rfl ?_
  refine gx_i2l X 31 32 dX7_order_31 rfl ?_
  refine gx_calliS X 32 35 (rest := []) (As := [.long a3.toInt64, .long ((-2)), .long (((m5 0 29) - 1).toInt64)]) (tX7_in hJ a3.toInt64 ((-2)) (((m5 0 29) - 1).toInt64) m5) wc_X7_in wl_X7_101 wt_X7_in wn_X7 hd_X7_in ⟨Nat.le_of_ble_eq_true rfl, Nat.le_of_ble_eq_true rfl⟩ ⟨rfl, rfl⟩ rfl rfl (Nat.le_of_ble_eq_true rfl) dX7_order_32 rfl (fun x6 m7 => ?_)
  refine gx_if_ne X 35 40 38 dX7_order_35 rfl rfl ?_ ?_
  · refine gx_iconst X 40 41 (0) dX7_order_40 rfl ci_0 ?_
    refine gx_istore X 41 43 (fun x8 => [(4, .int x8), (0, .ref (adr 0)), (1, .int a1), (2, .int a2), (3, .int a3)]) dX7_order_41 rfl (by decide) (fun _ => rfl) (fun x8 => ?_)
    refine gx_jn (fun (k : Mm → Aa) => ∀ (m9 : Mm), mm_G p l e rX7_order s m args below meth c 5 D cA adr sM NM (mm_Qi D cA adr sM NM) m9 65 [(0, .ref (adr 0)), (2, .int a2), (3, .int a3)] [] (k m9)) ?_ (fun k_65 hk_65 => ?_)
    · intro m9
      refine gx_aload_n X 65 66 0 dX7_order_65 rfl rfl rfl ?_
      refine gx_iconst X 66 67 (-1) dX7_order_66 rfl ci_m1 ?_
      refine gx_putI X 67 70 0 (by decide) rfl rfl fp_X7_265 dX7_order_67 rfl (fun m10 => ?_)
      refine gx_iconst X 70 71 (1) dX7_order_70 rfl ci_1 ?_
      refine gx_istore X 71 73 (fun x11 => [(4, .int x11), (0, .ref (adr 0)), (2, .int a2), (3, .int a3)]) dX7_order_71 rfl (by decide) (fun _ => rfl) (fun x11 => ?_)
      refine gx_jn (fun (k : Mm → Aa) => ∀ (m12 : Mm), mm_G p l e rX7_order s m args below meth c 5 D cA adr sM NM (mm_Qi D cA adr sM NM) m12 96 [(0, .ref (adr 0)), (3, .int a3)] [] (k m12)) ?_ (fun k_96 hk_96 => ?_)
      · intro m12
        refine gx_iload_n X 96 97 1 dX7_order_96 rfl rfl rfl ?_
        refine gx_iconst X 97 98 (-1) dX7_order_97 rfl ci_m1 ?_
        refine gx_jn (fun (k : Int32 → Mm → Aa) => ∀ (x13 : Int32) (m14 : Mm), mm_G p l e rX7_order s m args below meth c 5 D cA adr sM NM (mm_Qi D cA adr sM NM) m14 132 [] [.int x13] (k x13 m14)) ?_ (fun k_132 hk_132 => ?_)
        · intro x13 m14
          exact gx_iret X 132 hr dX7_order_132
        refine gx_icmp_ne X 98 108 101 dX7_order_98 rfl rfl ?_ ?_
        · refine gx_iload_n X 108 109 1 dX7_order_108 rfl rfl rfl ?_
          refine gx_bipush X 109 111 (-2) dX7_order_109 rfl cb_m2 ?_
          refine gx_icmp_ne X 111 121 114 dX7_order_111 rfl rfl ?_ ?_
          · refine gx_aload_n X 121 122 0 dX7_order_121 rfl rfl rfl ?_
            refine gx_getR X 122 125 0 (by decide) rfl rfl fg_X7_71 dX7_order_122 rfl ?_
            refine gx_aload_n X 125 126 0 dX7_order_125 rfl rfl rfl ?_
            refine gx_getR X 126 129 0 (by decide) rfl rfl fg_X7_77 dX7_order_126 rfl ?_
            refine gx_iload_n X 129 130 1 dX7_order_129 rfl rfl rfl ?_
            refine gx_iaload X 130 131 21 (by decide) rfl dX7_order_130 rfl ?_
            refine gx_iaload X 131 132 19 (by decide) rfl dX7_order_131 rfl ?_
            refine gx_sub [] rfl ?_
            exact hk_132 (m12 19 (m12 21 a3.toNatClampNeg).toNatClampNeg) m12
          refine gx_aload_n X 114 115 0 dX7_order_114 rfl rfl rfl ?_
          refine gx_getI X 115 118 0 (by decide) rfl rfl fg_X7_268 dX7_order_115 rfl ?_
          refine gx_goto X 118 132 dX7_order_118 rfl ?_
          refine gx_sub [] rfl ?_
          exact hk_132 (m12 0 34) m12
        refine gx_aload_n X 101 102 0 dX7_order_101 rfl rfl rfl ?_
        refine gx_getI X 102 105 0 (by decide) rfl rfl fg_X7_265 dX7_order_102 rfl ?_
        refine gx_goto X 105 132 dX7_order_105 rfl ?_
        refine gx_sub [] rfl ?_
        exact hk_132 (m12 0 33) m12
      refine gx_sub [1, 2, 3, 0] rfl ?_
      refine mm_lk_ind (fun (rec : Int32 → Mm → Aa) => ∀ (x15 : Int32) (m16 : Mm), mm_G p l e rX7_order s m args below meth c 5 D cA adr sM NM (mm_Qi D cA adr sM NM) m16 73 [(0, .ref (adr 0)), (2, .int a2), (3, .int a3), (4, .int x15)] [] (rec x15 m16)) (fun _ _ => gx_none) (fun rec_73 hr_73 x15 m16 => ?_) mm_fu x11 m10
      unfold fX7_order_L73
      refine gx_iload X 73 75 3 dX7_order_73 rfl rfl ?_
      refine gx_if_eq X 75 96 78 dX7_order_75 rfl rfl ?_ ?_
      · refine gx_sub [0, 2] rfl ?_
        exact hk_96 m16
      refine gx_aload_n X 78 79 0 dX7_order_78 rfl rfl rfl ?_
      refine gx_iload_n X 79 80 1 dX7_order_79 rfl rfl rfl ?_
      refine gx_callvV X 80 83 0 (rest := []) (As := [.int a2]) (tX7_goOrder hJ a2 m16) (by decide) rfl rfl wc_X7_goOrder wl_X7_294 wi_X7_goOrder ws_X7_goOrder wn_X7 rfl hd_X7_goOrder ⟨Nat.le_of_ble_eq_true rfl, Nat.le_of_ble_eq_true rfl⟩ ⟨rfl, rfl⟩ rfl rfl (Nat.le_of_ble_eq_true rfl) dX7_order_80 rfl (fun x17 m18 => ?_)
      refine gx_aload_n X 83 84 0 dX7_order_83 rfl rfl rfl ?_
      refine gx_callvV X 84 87 0 (rest := []) (As := []) (tX7_judge hJ m18) (by decide) rfl rfl wc_X7_judge wl_X7_288 wi_X7_judge ws_X7_judge wn_X7 rfl hd_X7_judge ⟨Nat.le_of_ble_eq_true rfl, Nat.le_of_ble_eq_true rfl⟩ ⟨rfl, rfl⟩ rfl rfl (Nat.le_of_ble_eq_true rfl) dX7_order_84 rfl (fun x19 m20 => ?_)
      refine gx_aload_n X 87 88 0 dX7_order_87 rfl rfl rfl ?_
      refine gx_calliV X 88 91 0 (rest := []) (As := []) (tX7_nextOrder hJ m20) (by decide) rfl rfl wc_X7_nextOrder wl_X7_297 wi_X7_nextOrder ws_X7_nextOrder wn_X7 rfl hd_X7_nextOrder ⟨Nat.le_of_ble_eq_true rfl, Nat.le_of_ble_eq_true rfl⟩ ⟨rfl, rfl⟩ rfl rfl (Nat.le_of_ble_eq_true rfl) dX7_order_88 rfl (fun x21 m22 => ?_)
      refine gx_istore X 91 93 (fun x23 => [(4, .int x23), (0, .ref (adr 0)), (2, .int a2), (3, .int a3)]) dX7_order_91 rfl (by decide) (fun _ => rfl) (fun x23 => ?_)
      refine gx_goto X 93 73 dX7_order_93 rfl ?_
      refine gx_sub [1, 2, 3, 0] rfl ?_
      exact hr_73 x23 m22
    refine gx_sub [1, 3, 4, 0] rfl ?_
    refine mm_lk_ind (fun (rec : Int32 → Mm → Aa) => ∀ (x24 : Int32) (m25 : Mm), mm_G p l e rX7_order s m args below meth c 5 D cA adr sM NM (mm_Qi D cA adr sM NM) m25 43 [(0, .ref (adr 0)), (2, .int a2), (3, .int a3), (4, .int x24)] [] (rec x24 m25)) (fun _ _ => gx_none) (fun rec_43 hr_43 x24 m25 => ?_) mm_fu x8 m7
    unfold fX7_order_L43
    refine gx_iload X 43 45 3 dX7_order_43 rfl rfl ?_
    refine gx_bipush X 45 47 (6) dX7_order_45 rfl cb_6 ?_
    refine gx_icmp_ge X 47 65 50 dX7_order_47 rfl rfl ?_ ?_
    · refine gx_sub [0, 1, 2] rfl ?_
      exact hk_65 m25
    refine gx_aload_n X 50 51 0 dX7_order_50 rfl rfl rfl ?_
    refine gx_getR X 51 54 0 (by decide) rfl rfl fg_X7_74 dX7_order_51 rfl ?_
    refine gx_iload X 54 56 3 dX7_order_54 rfl rfl ?_
    refine gx_iload X 56 58 3 dX7_order_56 rfl rfl ?_
    refine gx_iastore X 58 59 20 (by decide) rfl dX7_order_58 rfl (fun m26 => ?_)
    refine gx_iinc X 59 62 3 (1) (fun x27 => [(4, .int x27), (0, .ref (adr 0)), (2, .int a2), (3, .int a3)]) dX7_order_59 rfl rfl ci_1 (by decide) (fun _ => rfl) (fun x27 => ?_)
    refine gx_goto X 62 43 dX7_order_62 rfl ?_
    refine gx_sub [1, 2, 3, 0] rfl ?_
    exact hr_43 x27 m26
  refine gx_sub [] rfl ?_
  exact hk_38 m7
def fX7_sumIf (a1 : Int32) (a2 : Int32) (μ : Mm) : Aa := mm_cl (fX7_begin μ) (fun (x1 : Int32) (m2 : Mm) => mm_ck a1 10 (mm_lt (mm_wr m2 16 a1.toNatClampNeg a2) (fun (m3 : Mm) => mm_cl (fX7_goTo 999 m3) (fun (x4 : Int32) (m5 : Mm) => mm_cl (fX7_sumOver m5) (fun (x6 : Int32) (m7 : Mm) => some (x6, m7))))))
abbrev rX7_sumIf : Room := { frames := 5, cells := 0, slots := 0, locals := 114 }
set_option maxRecDepth 100000 in
set_option maxHeartbeats 8000000 in
theorem tX7_sumIf {l : Launch} {D : va_G} {cA : Nat → ClassId} {adr : Nat → Nat} (hJ : mm_J adr NM) (a1 : Int32) (a2 : Int32) (μ : Mm) : mm_Mi l D cA adr sM NM mm_SM yX7_sumIf cX7_sumIf 3 (some .int) rX7_sumIf [.ref (adr 0), .int a1, .int a2] μ (fX7_sumIf a1 a2 μ) := by
  refine mm_entryi hJ mm_okM (by decide) (Nat.le_of_ble_eq_true rfl) ⟨rfl, rfl⟩ (fun p e s m below meth c X hr => ?_)
  generalize ([.ref (adr 0), .int a1, .int a2] : List Value).toArray = args at X ⊢
  refine gx_lv (lv' := [(0, .ref (adr 0)), (1, .int a1), (2, .int a2)]) rfl ?_
  unfold fX7_sumIf
  refine gx_aload_n X 0 1 0 dX7_sumIf_0 rfl rfl rfl ?_
  refine gx_callvV X 1 4 0 (rest := []) (As := []) (tX7_begin hJ μ) (by decide) rfl rfl wc_X7_begin wl_X7_237 wi_X7_begin ws_X7_begin wn_X7 rfl hd_X7_begin ⟨Nat.le_of_ble_eq_true rfl, Nat.le_of_ble_eq_true rfl⟩ ⟨rfl, rfl⟩ rfl rfl (Nat.le_of_ble_eq_true rfl) dX7_sumIf_1 rfl (fun x1 m2 => ?_)
  refine gx_aload_n X 4 5 0 dX7_sumIf_4 rfl rfl rfl ?_
  refine gx_getR X 5 8 0 (by decide) rfl rfl fg_X7_59 dX7_sumIf_5 rfl ?_
  refine gx_iload_n X 8 9 1 dX7_sumIf_8 rfl rfl rfl ?_
  refine gx_iload_n X 9 10 2 dX7_sumIf_9 rfl rfl rfl ?_
  refine gx_iastore X 10 11 16 (by decide) rfl dX7_sumIf_10 rfl (fun m3 => ?_)
  refine gx_aload_n X 11 12 0 dX7_sumIf_11 rfl rfl rfl ?_
  refine gx_sipush X 12 15 (999) dX7_sumIf_12 rfl cs_999 ?_
  refine gx_callvV X 15 18 0 (rest := []) (As := [.int 999]) (tX7_goTo hJ 999 m3) (by decide) rfl rfl wc_X7_goTo wl_X7_240 wi_X7_goTo ws_X7_goTo wn_X7 rfl hd_X7_goTo ⟨Nat.le_of_ble_eq_true rfl, Nat.le_of_ble_eq_true rfl⟩ ⟨rfl, rfl⟩ rfl rfl (Nat.le_of_ble_eq_true rfl) dX7_sumIf_15 rfl (fun x4 m5 => ?_)
  refine gx_aload_n X 18 19 0 dX7_sumIf_18 rfl rfl rfl ?_
  refine gx_calliV X 19 22 0 (rest := []) (As := []) (tX7_sumOver hJ m5) (by decide) rfl rfl wc_X7_sumOver wl_X7_253 wi_X7_sumOver ws_X7_sumOver wn_X7 rfl hd_X7_sumOver ⟨Nat.le_of_ble_eq_true rfl, Nat.le_of_ble_eq_true rfl⟩ ⟨rfl, rfl⟩ rfl rfl (Nat.le_of_ble_eq_true rfl) dX7_sumIf_19 rfl (fun x6 m7 => ?_)
  exact gx_iret X 22 hr dX7_sumIf_22
def fX7_worth (a1 : Int32) (a2 : Int32) (μ : Mm) : Aa := mm_cl (fX7_isPerson a1 μ) (fun (x1 : Int32) (m2 : Mm) => mm_lt (fun (m3 : Mm) => some ((-100001), m3)) (fun (k_21 : Mm → Aa) => if x1 = 0 then (k_21 m2) else (mm_cl (fX7_isPerson a2 m2) (fun (x4 : Int32) (m5 : Mm) => if x4 = 0 then (k_21 m5) else (if a1 = a2 then (k_21 m5) else (mm_cl (fX7_goAll m5) (fun (x6 : Int32) (m7 : Mm) => mm_cl (fX7_sumOver m7) (fun (x8 : Int32) (m9 : Mm) => mm_lt x8 (fun (x10 : Int32) => mm_cl (fX7_sumIf a1 a2 m9) (fun (x11 : Int32) (m12 : Mm) => some (x10 - x11, m12)))))))))))
abbrev rX7_worth : Room := { frames := 6, cells := 0, slots := 0, locals := 136 }
set_option maxRecDepth 100000 in
set_option maxHeartbeats 8000000 in
theorem tX7_worth {l : Launch} {D : va_G} {cA : Nat → ClassId} {adr : Nat → Nat} (hJ : mm_J adr NM) (a1 : Int32) (a2 : Int32) (μ : Mm) : mm_Mi l D cA adr sM NM mm_SM yX7_worth cX7_worth 4 (some .int) rX7_worth [.ref (adr 0), .int a1, .int a2] μ (fX7_worth a1 a2 μ) := by
  refine mm_entryi hJ mm_okM (by decide) (Nat.le_of_ble_eq_true rfl) ⟨rfl, rfl⟩ (fun p e s m below meth c X hr => ?_)
  generalize ([.ref (adr 0), .int a1, .int a2] : List Value).toArray = args at X ⊢
  refine gx_lv (lv' := [(0, .ref (adr 0)), (1, .int a1), (2, .int a2)]) rfl ?_
  unfold fX7_worth
  refine gx_aload_n X 0 1 0 dX7_worth_0 rfl rfl rfl ?_
  refine gx_iload_n X 1 2 1 dX7_worth_1 rfl rfl rfl ?_
  refine gx_calliV X 2 5 0 (rest := []) (As := [.int a1]) (tX7_isPerson hJ a1 μ) (by decide) rfl rfl wc_X7_isPerson wl_X7_136 wi_X7_isPerson ws_X7_isPerson wn_X7 rfl hd_X7_isPerson ⟨Nat.le_of_ble_eq_true rfl, Nat.le_of_ble_eq_true rfl⟩ ⟨rfl, rfl⟩ rfl rfl (Nat.le_of_ble_eq_true rfl) dX7_worth_2 rfl (fun x1 m2 => ?_)
  refine gx_jn (fun (k : Mm → Aa) => ∀ (m3 : Mm), mm_G p l e rX7_worth s m args below meth c 4 D cA adr sM NM (mm_Qi D cA adr sM NM) m3 21 [] [] (k m3)) ?_ (fun k_21 hk_21 => ?_)
  · intro m3
    refine gx_ldc_w X 21 24 wk_X7_300 dX7_worth_21 rfl ?_
    exact gx_iret X 24 hr dX7_worth_24
  refine gx_if_eq X 5 21 8 dX7_worth_5 rfl rfl ?_ ?_
  · refine gx_sub [] rfl ?_
    exact hk_21 m2
  refine gx_aload_n X 8 9 0 dX7_worth_8 rfl rfl rfl ?_
  refine gx_iload_n X 9 10 2 dX7_worth_9 rfl rfl rfl ?_
  refine gx_calliV X 10 13 0 (rest := []) (As := [.int a2]) (tX7_isPerson hJ a2 m2) (by decide) rfl rfl wc_X7_isPerson wl_X7_136 wi_X7_isPerson ws_X7_isPerson wn_X7 rfl hd_X7_isPerson ⟨Nat.le_of_ble_eq_true rfl, Nat.le_of_ble_eq_true rfl⟩ ⟨rfl, rfl⟩ rfl rfl (Nat.le_of_ble_eq_true rfl) dX7_worth_10 rfl (fun x4 m5 => ?_)
  refine gx_if_eq X 13 21 16 dX7_worth_13 rfl rfl ?_ ?_
  · refine gx_sub [] rfl ?_
    exact hk_21 m5
  refine gx_iload_n X 16 17 1 dX7_worth_16 rfl rfl rfl ?_
  refine gx_iload_n X 17 18 2 dX7_worth_17 rfl rfl rfl ?_
  refine gx_icmp_ne X 18 25 21 dX7_worth_18 rfl rfl ?_ ?_
  · refine gx_aload_n X 25 26 0 dX7_worth_25 rfl rfl rfl ?_
    refine gx_callvV X 26 29 0 (rest := []) (As := []) (tX7_goAll hJ m5) (by decide) rfl rfl wc_X7_goAll wl_X7_245 wi_X7_goAll ws_X7_goAll wn_X7 rfl hd_X7_goAll ⟨Nat.le_of_ble_eq_true rfl, Nat.le_of_ble_eq_true rfl⟩ ⟨rfl, rfl⟩ rfl rfl (Nat.le_of_ble_eq_true rfl) dX7_worth_26 rfl (fun x6 m7 => ?_)
    refine gx_aload_n X 29 30 0 dX7_worth_29 rfl rfl rfl ?_
    refine gx_calliV X 30 33 0 (rest := []) (As := []) (tX7_sumOver hJ m7) (by decide) rfl rfl wc_X7_sumOver wl_X7_253 wi_X7_sumOver ws_X7_sumOver wn_X7 rfl hd_X7_sumOver ⟨Nat.le_of_ble_eq_true rfl, Nat.le_of_ble_eq_true rfl⟩ ⟨rfl, rfl⟩ rfl rfl (Nat.le_of_ble_eq_true rfl) dX7_worth_30 rfl (fun x8 m9 => ?_)
    refine gx_istore_n X 33 34 (fun x10 => [(3, .int x10), (0, .ref (adr 0)), (1, .int a1), (2, .int a2)]) dX7_worth_33 rfl rfl (by decide) (fun _ => rfl) (fun x10 => ?_)
    refine gx_iload_n X 34 35 0 dX7_worth_34 rfl rfl rfl ?_
    refine gx_aload_n X 35 36 1 dX7_worth_35 rfl rfl rfl ?_
    refine gx_iload_n X 36 37 2 dX7_worth_36 rfl rfl rfl ?_
    refine gx_iload_n X 37 38 3 dX7_worth_37 rfl rfl rfl ?_
    refine gx_calliV X 38 41 0 (rest := [.int x10]) (As := [.int a1, .int a2]) (tX7_sumIf hJ a1 a2 m9) (by decide) rfl rfl wc_X7_sumIf wl_X7_301 wi_X7_sumIf ws_X7_sumIf wn_X7 rfl hd_X7_sumIf ⟨Nat.le_of_ble_eq_true rfl, Nat.le_of_ble_eq_true rfl⟩ ⟨rfl, rfl⟩ rfl rfl (Nat.le_of_ble_eq_true rfl) dX7_worth_38 rfl (fun x11 m12 => ?_)
    refine gx_isub X 41 42 dX7_worth_41 rfl ?_
    exact gx_iret X 42 hr dX7_worth_42
  refine gx_sub [] rfl ?_
  exact hk_21 m5
def fX7_waits_L30 (k_103 : Int32 → Mm → Aa) (rec_30 : Int32 → Int32 → Int32 → Mm → Aa) (x10 : Int32) (x11 : Int32) (x12 : Int32) (m13 : Mm) : Aa := if ((m13 0 1) * (m13 0 1)) ≤ x12 then (k_103 x10 m13) else (mm_nz (m13 0 1) (mm_nz (m13 0 1) (mm_lt (fun (x14 : Int32) (x15 : Int32) (m16 : Mm) => mm_lt (x12 + 1) (fun (x17 : Int32) => rec_30 x14 x15 x17 m16)) (fun (k_97 : Int32 → Int32 → Mm → Aa) => if (x12 / (m13 0 1)) = (x12 - x12 / (m13 0 1) * (m13 0 1)) then (k_97 x10 x11 m13) else (mm_nz (m13 0 1) (mm_nz (m13 0 1) (mm_cl (fX7_sumIf (x12 / (m13 0 1)) (x12 - x12 / (m13 0 1) * (m13 0 1)) m13) (fun (x18 : Int32) (m19 : Mm) => mm_lt x18 (fun (x20 : Int32) => mm_lt (fun (m21 : Mm) => mm_lt x12 (fun (x22 : Int32) => mm_lt x20 (fun (x23 : Int32) => k_97 x22 x23 m21))) (fun (k_91 : Mm → Aa) => if x10 < 0 then (k_91 m19) else (if x11 ≤ x20 then (k_97 x10 x11 m19) else (k_91 m19))))))))))))
def fX7_waits (a1 : Int32) (μ : Mm) : Aa := mm_cl (fX7_in a1.toInt64 0 1 μ) (fun (x1 : Int32) (m2 : Mm) => if x1 = 0 then (some ((-1), m2)) else (if 2 ≤ (m2 0 1) then (mm_lt ((-1)) (fun (x3 : Int32) => mm_lt 0 (fun (x4 : Int32) => mm_lt 0 (fun (x5 : Int32) => mm_lt (fun (x6 : Int32) (m7 : Mm) => mm_lt (fun (x8 : Int32) (m9 : Mm) => some (x8, m9)) (fun (k_122 : Int32 → Mm → Aa) => if a1 = 0 then (mm_nz (m7 0 1) (k_122 (x6 / (m7 0 1)) m7)) else (mm_nz (m7 0 1) (k_122 (x6 - x6 / (m7 0 1) * (m7 0 1)) m7)))) (fun (k_103 : Int32 → Mm → Aa) => mm_lk (fun (_ : Int32) (_ : Int32) (_ : Int32) (_ : Mm) => (none : Aa)) (fX7_waits_L30 k_103) mm_fu x3 x4 x5 m2))))) else (some ((-2), m2))))
abbrev rX7_waits : Room := { frames := 6, cells := 0, slots := 0, locals := 136 }
set_option maxRecDepth 100000 in
set_option maxHeartbeats 8000000 in
theorem tX7_waits {l : Launch} {D : va_G} {cA : Nat → ClassId} {adr : Nat → Nat} (hJ : mm_J adr NM) (a1 : Int32) (μ : Mm) : mm_Mi l D cA adr sM NM mm_SM yX7_waits cX7_waits 6 (some .int) rX7_waits [.ref (adr 0), .int a1] μ (fX7_waits a1 μ) := by
  refine mm_entryi hJ mm_okM (by decide) (Nat.le_of_ble_eq_true rfl) ⟨rfl, rfl⟩ (fun p e s m below meth c X hr => ?_)
  generalize ([.ref (adr 0), .int a1] : List Value).toArray = args at X ⊢
  refine gx_lv (lv' := [(0, .ref (adr 0)), (1, .int a1)]) rfl ?_
  unfold fX7_waits
  refine gx_iload_n X 0 1 1 dX7_waits_0 rfl rfl rfl ?_
  refine gx_i2l X 1 2 dX7_waits_1 rfl ?_
  refine gx_lconst X 2 3 (0) dX7_waits_2 rfl cl_0 ?_
  refine gx_lconst X 3 4 (1) dX7_waits_3 rfl cl_1 ?_
  refine gx_calliS X 4 7 (rest := []) (As := [.long a1.toInt64, .long 0, .long 1]) (tX7_in hJ a1.toInt64 0 1 μ) wc_X7_in wl_X7_101 wt_X7_in wn_X7 hd_X7_in ⟨Nat.le_of_ble_eq_true rfl, Nat.le_of_ble_eq_true rfl⟩ ⟨rfl, rfl⟩ rfl rfl (Nat.le_of_ble_eq_true rfl) dX7_waits_4 rfl (fun x1 m2 => ?_)
  refine gx_if_ne X 7 12 10 dX7_waits_7 rfl rfl ?_ ?_
  · refine gx_aload_n X 12 13 0 dX7_waits_12 rfl rfl rfl ?_
    refine gx_getI X 13 16 0 (by decide) rfl rfl fg_X7_98 dX7_waits_13 rfl ?_
    refine gx_iconst X 16 17 (2) dX7_waits_16 rfl ci_2 ?_
    refine gx_icmp_ge X 17 23 20 dX7_waits_17 rfl rfl ?_ ?_
    · refine gx_iconst X 23 24 (-1) dX7_waits_23 rfl ci_m1 ?_
      refine gx_istore_n X 24 25 (fun x3 => [(2, .int x3), (0, .ref (adr 0)), (1, .int a1)]) dX7_waits_24 rfl rfl (by decide) (fun _ => rfl) (fun x3 => ?_)
      refine gx_iconst X 25 26 (0) dX7_waits_25 rfl ci_0 ?_
      refine gx_istore_n X 26 27 (fun x4 => [(3, .int x4), (2, .int x3), (0, .ref (adr 0)), (1, .int a1)]) dX7_waits_26 rfl rfl (by decide) (fun _ => rfl) (fun x4 => ?_)
      refine gx_iconst X 27 28 (0) dX7_waits_27 rfl ci_0 ?_
      refine gx_istore X 28 30 (fun x5 => [(4, .int x5), (3, .int x4), (2, .int x3), (0, .ref (adr 0)), (1, .int a1)]) dX7_waits_28 rfl (by decide) (fun _ => rfl) (fun x5 => ?_)
      refine gx_jn (fun (k : Int32 → Mm → Aa) => ∀ (x6 : Int32) (m7 : Mm), mm_G p l e rX7_waits s m args below meth c 6 D cA adr sM NM (mm_Qi D cA adr sM NM) m7 103 [(0, .ref (adr 0)), (1, .int a1), (2, .int x6)] [] (k x6 m7)) ?_ (fun k_103 hk_103 => ?_)
      · intro x6 m7
        refine gx_iload_n X 103 104 1 dX7_waits_103 rfl rfl rfl ?_
        refine gx_jn (fun (k : Int32 → Mm → Aa) => ∀ (x8 : Int32) (m9 : Mm), mm_G p l e rX7_waits s m args below meth c 6 D cA adr sM NM (mm_Qi D cA adr sM NM) m9 122 [] [.int x8] (k x8 m9)) ?_ (fun k_122 hk_122 => ?_)
        · intro x8 m9
          exact gx_iret X 122 hr dX7_waits_122
        refine gx_if_ne X 104 116 107 dX7_waits_104 rfl rfl ?_ ?_
        · refine gx_iload_n X 116 117 2 dX7_waits_116 rfl rfl rfl ?_
          refine gx_aload_n X 117 118 0 dX7_waits_117 rfl rfl rfl ?_
          refine gx_getI X 118 121 0 (by decide) rfl rfl fg_X7_98 dX7_waits_118 rfl ?_
          refine gx_irem X 121 122 dX7_waits_121 rfl ?_
          refine gx_sub [] rfl ?_
          exact hk_122 (x6 - x6 / (m7 0 1) * (m7 0 1)) m7
        refine gx_iload_n X 107 108 2 dX7_waits_107 rfl rfl rfl ?_
        refine gx_aload_n X 108 109 0 dX7_waits_108 rfl rfl rfl ?_
        refine gx_getI X 109 112 0 (by decide) rfl rfl fg_X7_98 dX7_waits_109 rfl ?_
        refine gx_idiv X 112 113 dX7_waits_112 rfl ?_
        refine gx_goto X 113 122 dX7_waits_113 rfl ?_
        refine gx_sub [] rfl ?_
        exact hk_122 (x6 / (m7 0 1)) m7
      refine gx_sub [3, 4, 2, 1, 0] rfl ?_
      refine mm_lk_ind (fun (rec : Int32 → Int32 → Int32 → Mm → Aa) => ∀ (x10 : Int32) (x11 : Int32) (x12 : Int32) (m13 : Mm), mm_G p l e rX7_waits s m args below meth c 6 D cA adr sM NM (mm_Qi D cA adr sM NM) m13 30 [(0, .ref (adr 0)), (1, .int a1), (2, .int x10), (3, .int x11), (4, .int x12)] [] (rec x10 x11 x12 m13)) (fun _ _ _ _ => gx_none) (fun rec_30 hr_30 x10 x11 x12 m13 => ?_) mm_fu x3 x4 x5 m2
      unfold fX7_waits_L30
      refine gx_iload X 30 32 4 dX7_waits_30 rfl rfl ?_
      refine gx_aload_n X 32 33 0 dX7_waits_32 rfl rfl rfl ?_
      refine gx_getI X 33 36 0 (by decide) rfl rfl fg_X7_98 dX7_waits_33 rfl ?_
      refine gx_aload_n X 36 37 0 dX7_waits_36 rfl rfl rfl ?_
      refine gx_getI X 37 40 0 (by decide) rfl rfl fg_X7_98 dX7_waits_37 rfl ?_
      refine gx_imul X 40 41 dX7_waits_40 rfl ?_
      refine gx_icmp_ge X 41 103 44 dX7_waits_41 rfl rfl ?_ ?_
      · refine gx_sub [0, 1, 2] rfl ?_
        exact hk_103 x10 m13
      refine gx_iload X 44 46 4 dX7_waits_44 rfl rfl ?_
      refine gx_aload_n X 46 47 0 dX7_waits_46 rfl rfl rfl ?_
      refine gx_getI X 47 50 0 (by decide) rfl rfl fg_X7_98 dX7_waits_47 rfl ?_
      refine gx_idiv X 50 51 dX7_waits_50 rfl ?_
      refine gx_iload X 51 53 4 dX7_waits_51 rfl rfl ?_
      refine gx_aload_n X 53 54 0 dX7_waits_53 rfl rfl rfl ?_
      refine gx_getI X 54 57 0 (by decide) rfl rfl fg_X7_98 dX7_waits_54 rfl ?_
      refine gx_irem X 57 58 dX7_waits_57 rfl ?_
      refine gx_jn (fun (k : Int32 → Int32 → Mm → Aa) => ∀ (x14 : Int32) (x15 : Int32) (m16 : Mm), mm_G p l e rX7_waits s m args below meth c 6 D cA adr sM NM (mm_Qi D cA adr sM NM) m16 97 [(0, .ref (adr 0)), (1, .int a1), (2, .int x14), (3, .int x15), (4, .int x12)] [] (k x14 x15 m16)) ?_ (fun k_97 hk_97 => ?_)
      · intro x14 x15 m16
        refine gx_iinc X 97 100 4 (1) (fun x17 => [(4, .int x17), (0, .ref (adr 0)), (1, .int a1), (2, .int x14), (3, .int x15)]) dX7_waits_97 rfl rfl ci_1 (by decide) (fun _ => rfl) (fun x17 => ?_)
        refine gx_goto X 100 30 dX7_waits_100 rfl ?_
        refine gx_sub [1, 2, 3, 4, 0] rfl ?_
        exact hr_30 x14 x15 x17 m16
      refine gx_icmp_eq X 58 97 61 dX7_waits_58 rfl rfl ?_ ?_
      · exact hk_97 x10 x11 m13
      refine gx_aload_n X 61 62 0 dX7_waits_61 rfl rfl rfl ?_
      refine gx_iload X 62 64 4 dX7_waits_62 rfl rfl ?_
      refine gx_aload_n X 64 65 0 dX7_waits_64 rfl rfl rfl ?_
      refine gx_getI X 65 68 0 (by decide) rfl rfl fg_X7_98 dX7_waits_65 rfl ?_
      refine gx_idiv X 68 69 dX7_waits_68 rfl ?_
      refine gx_iload X 69 71 4 dX7_waits_69 rfl rfl ?_
      refine gx_aload_n X 71 72 0 dX7_waits_71 rfl rfl rfl ?_
      refine gx_getI X 72 75 0 (by decide) rfl rfl fg_X7_98 dX7_waits_72 rfl ?_
      refine gx_irem X 75 76 dX7_waits_75 rfl ?_
      refine gx_calliV X 76 79 0 (rest := []) (As := [.int (x12 / (m13 0 1)), .int (x12 - x12 / (m13 0 1) * (m13 0 1))]) (tX7_sumIf hJ (x12 / (m13 0 1)) (x12 - x12 / (m13 0 1) * (m13 0 1)) m13) (by decide) rfl rfl wc_X7_sumIf wl_X7_301 wi_X7_sumIf ws_X7_sumIf wn_X7 rfl hd_X7_sumIf ⟨Nat.le_of_ble_eq_true rfl, Nat.le_of_ble_eq_true rfl⟩ ⟨rfl, rfl⟩ rfl rfl (Nat.le_of_ble_eq_true rfl) dX7_waits_76 rfl (fun x18 m19 => ?_)
      refine gx_istore X 79 81 (fun x20 => [(5, .int x20), (0, .ref (adr 0)), (1, .int a1), (2, .int x10), (3, .int x11), (4, .int x12)]) dX7_waits_79 rfl (by decide) (fun _ => rfl) (fun x20 => ?_)
      refine gx_iload_n X 81 82 3 dX7_waits_81 rfl rfl rfl ?_
      refine gx_jn (fun (k : Mm → Aa) => ∀ (m21 : Mm), mm_G p l e rX7_waits s m args below meth c 6 D cA adr sM NM (mm_Qi D cA adr sM NM) m21 91 [(0, .ref (adr 0)), (1, .int a1), (4, .int x12), (5, .int x20)] [] (k m21)) ?_ (fun k_91 hk_91 => ?_)
      · intro m21
        refine gx_iload X 91 93 2 dX7_waits_91 rfl rfl ?_
        refine gx_istore_n X 93 94 (fun x22 => [(2, .int x22), (0, .ref (adr 0)), (1, .int a1), (4, .int x12), (5, .int x20)]) dX7_waits_93 rfl rfl (by decide) (fun _ => rfl) (fun x22 => ?_)
        refine gx_iload X 94 96 4 dX7_waits_94 rfl rfl ?_
        refine gx_istore_n X 96 97 (fun x23 => [(3, .int x23), (2, .int x22), (0, .ref (adr 0)), (1, .int a1), (4, .int x12), (5, .int x20)]) dX7_waits_96 rfl rfl (by decide) (fun _ => rfl) (fun x23 => ?_)
        refine gx_sub [2, 3, 1, 0, 4] rfl ?_
        exact hk_97 x22 x23 m21
      refine gx_if_lt X 82 91 85 dX7_waits_82 rfl rfl ?_ ?_
      · refine gx_sub [1, 2, 5, 0] rfl ?_
        exact hk_91 m19
      refine gx_iload X 85 87 0 dX7_waits_85 rfl rfl ?_
      refine gx_iload_n X 87 88 4 dX7_waits_87 rfl rfl rfl ?_
      refine gx_icmp_ge X 88 97 91 dX7_waits_88 rfl rfl ?_ ?_
      · refine gx_sub [1, 2, 3, 4, 5] rfl ?_
        exact hk_97 x10 x11 m19
      refine gx_sub [1, 2, 5, 0] rfl ?_
      exact hk_91 m19
    refine gx_bipush X 20 22 (-2) dX7_waits_20 rfl cb_m2 ?_
    exact gx_iret X 22 hr dX7_waits_22
  refine gx_iconst X 10 11 (-1) dX7_waits_10 rfl ci_m1 ?_
  exact gx_iret X 11 hr dX7_waits_11
def fX7_handed (a1 : Int32) (a2 : Int32) (μ : Mm) : Aa := mm_cl (fX7_isPerson a1 μ) (fun (x1 : Int32) (m2 : Mm) => mm_lt (fun (m3 : Mm) => some ((-1), m3)) (fun (k_41 : Mm → Aa) => if x1 = 0 then (k_41 m2) else (mm_cl (fX7_isPerson a2 m2) (fun (x4 : Int32) (m5 : Mm) => if x4 = 0 then (k_41 m5) else (mm_ck ((7 * a1) + 1) 70 (mm_ck ((7 * a2) + 1) 70 (if (m5 1 ((7 * a1) + 1).toNatClampNeg) = (m5 1 ((7 * a2) + 1).toNatClampNeg) then (k_41 m5) else (mm_cl (fX7_paceOf a1 m5) (fun (x6 : Int32) (m7 : Mm) => mm_cl (fX7_paceOf a2 m7) (fun (x8 : Int32) (m9 : Mm) => mm_lt (x6 + x8) (fun (x10 : Int32) => mm_nz x10 (some (2 * ((((m9 0 3) + x10) - 1) / x10), m9)))))))))))))
abbrev rX7_handed : Room := { frames := 2, cells := 0, slots := 0, locals := 46 }
set_option maxRecDepth 100000 in
set_option maxHeartbeats 8000000 in
theorem tX7_handed {l : Launch} {D : va_G} {cA : Nat → ClassId} {adr : Nat → Nat} (hJ : mm_J adr NM) (a1 : Int32) (a2 : Int32) (μ : Mm) : mm_Mi l D cA adr sM NM mm_SM yX7_handed cX7_handed 4 (some .int) rX7_handed [.ref (adr 0), .int a1, .int a2] μ (fX7_handed a1 a2 μ) := by
  refine mm_entryi hJ mm_okM (by decide) (Nat.le_of_ble_eq_true rfl) ⟨rfl, rfl⟩ (fun p e s m below meth c X hr => ?_)
  generalize ([.ref (adr 0), .int a1, .int a2] : List Value).toArray = args at X ⊢
  refine gx_lv (lv' := [(0, .ref (adr 0)), (1, .int a1), (2, .int a2)]) rfl ?_
  unfold fX7_handed
  refine gx_aload_n X 0 1 0 dX7_handed_0 rfl rfl rfl ?_
  refine gx_iload_n X 1 2 1 dX7_handed_1 rfl rfl rfl ?_
  refine gx_calliV X 2 5 0 (rest := []) (As := [.int a1]) (tX7_isPerson hJ a1 μ) (by decide) rfl rfl wc_X7_isPerson wl_X7_136 wi_X7_isPerson ws_X7_isPerson wn_X7 rfl hd_X7_isPerson ⟨Nat.le_of_ble_eq_true rfl, Nat.le_of_ble_eq_true rfl⟩ ⟨rfl, rfl⟩ rfl rfl (Nat.le_of_ble_eq_true rfl) dX7_handed_2 rfl (fun x1 m2 => ?_)
  refine gx_jn (fun (k : Mm → Aa) => ∀ (m3 : Mm), mm_G p l e rX7_handed s m args below meth c 4 D cA adr sM NM (mm_Qi D cA adr sM NM) m3 41 [] [] (k m3)) ?_ (fun k_41 hk_41 => ?_)
  · intro m3
    refine gx_iconst X 41 42 (-1) dX7_handed_41 rfl ci_m1 ?_
    exact gx_iret X 42 hr dX7_handed_42
  refine gx_if_eq X 5 41 8 dX7_handed_5 rfl rfl ?_ ?_
  · refine gx_sub [] rfl ?_
    exact hk_41 m2
  refine gx_aload_n X 8 9 0 dX7_handed_8 rfl rfl rfl ?_
  refine gx_iload_n X 9 10 2 dX7_handed_9 rfl rfl rfl ?_
  refine gx_calliV X 10 13 0 (rest := []) (As := [.int a2]) (tX7_isPerson hJ a2 m2) (by decide) rfl rfl wc_X7_isPerson wl_X7_136 wi_X7_isPerson ws_X7_isPerson wn_X7 rfl hd_X7_isPerson ⟨Nat.le_of_ble_eq_true rfl, Nat.le_of_ble_eq_true rfl⟩ ⟨rfl, rfl⟩ rfl rfl (Nat.le_of_ble_eq_true rfl) dX7_handed_10 rfl (fun x4 m5 => ?_)
  refine gx_if_eq X 13 41 16 dX7_handed_13 rfl rfl ?_ ?_
  · refine gx_sub [] rfl ?_
    exact hk_41 m5
  refine gx_aload_n X 16 17 0 dX7_handed_16 rfl rfl rfl ?_
  refine gx_getR X 17 20 0 (by decide) rfl rfl fg_X7_7 dX7_handed_17 rfl ?_
  refine gx_bipush X 20 22 (7) dX7_handed_20 rfl cb_7 ?_
  refine gx_iload_n X 22 23 1 dX7_handed_22 rfl rfl rfl ?_
  refine gx_imul X 23 24 dX7_handed_23 rfl ?_
  refine gx_iconst X 24 25 (1) dX7_handed_24 rfl ci_1 ?_
  refine gx_iadd X 25 26 dX7_handed_25 rfl ?_
  refine gx_iaload X 26 27 1 (by decide) rfl dX7_handed_26 rfl ?_
  refine gx_aload_n X 27 28 0 dX7_handed_27 rfl rfl rfl ?_
  refine gx_getR X 28 31 0 (by decide) rfl rfl fg_X7_7 dX7_handed_28 rfl ?_
  refine gx_bipush X 31 33 (7) dX7_handed_31 rfl cb_7 ?_
  refine gx_iload_n X 33 34 2 dX7_handed_33 rfl rfl rfl ?_
  refine gx_imul X 34 35 dX7_handed_34 rfl ?_
  refine gx_iconst X 35 36 (1) dX7_handed_35 rfl ci_1 ?_
  refine gx_iadd X 36 37 dX7_handed_36 rfl ?_
  refine gx_iaload X 37 38 1 (by decide) rfl dX7_handed_37 rfl ?_
  refine gx_icmp_ne X 38 43 41 dX7_handed_38 rfl rfl ?_ ?_
  · refine gx_aload_n X 43 44 0 dX7_handed_43 rfl rfl rfl ?_
    refine gx_iload_n X 44 45 1 dX7_handed_44 rfl rfl rfl ?_
    refine gx_calliV X 45 48 0 (rest := []) (As := [.int a1]) (tX7_paceOf hJ a1 m5) (by decide) rfl rfl wc_X7_paceOf wl_X7_140 wi_X7_paceOf ws_X7_paceOf wn_X7 rfl hd_X7_paceOf ⟨Nat.le_of_ble_eq_true rfl, Nat.le_of_ble_eq_true rfl⟩ ⟨rfl, rfl⟩ rfl rfl (Nat.le_of_ble_eq_true rfl) dX7_handed_45 rfl (fun x6 m7 => ?_)
    refine gx_aload_n X 48 49 0 dX7_handed_48 rfl rfl rfl ?_
    refine gx_iload_n X 49 50 2 dX7_handed_49 rfl rfl rfl ?_
    refine gx_calliV X 50 53 0 (rest := [.int x6]) (As := [.int a2]) (tX7_paceOf hJ a2 m7) (by decide) rfl rfl wc_X7_paceOf wl_X7_140 wi_X7_paceOf ws_X7_paceOf wn_X7 rfl hd_X7_paceOf ⟨Nat.le_of_ble_eq_true rfl, Nat.le_of_ble_eq_true rfl⟩ ⟨rfl, rfl⟩ rfl rfl (Nat.le_of_ble_eq_true rfl) dX7_handed_50 rfl (fun x8 m9 => ?_)
    refine gx_iadd X 53 54 dX7_handed_53 rfl ?_
    refine gx_istore_n X 54 55 (fun x10 => [(3, .int x10), (0, .ref (adr 0)), (1, .int a1), (2, .int a2)]) dX7_handed_54 rfl rfl (by decide) (fun _ => rfl) (fun x10 => ?_)
    refine gx_iconst X 55 56 (2) dX7_handed_55 rfl ci_2 ?_
    refine gx_aload_n X 56 57 1 dX7_handed_56 rfl rfl rfl ?_
    refine gx_getI X 57 60 0 (by decide) rfl rfl fg_X7_16 dX7_handed_57 rfl ?_
    refine gx_iload_n X 60 61 0 dX7_handed_60 rfl rfl rfl ?_
    refine gx_iadd X 61 62 dX7_handed_61 rfl ?_
    refine gx_iconst X 62 63 (1) dX7_handed_62 rfl ci_1 ?_
    refine gx_isub X 63 64 dX7_handed_63 rfl ?_
    refine gx_iload_n X 64 65 0 dX7_handed_64 rfl rfl rfl ?_
    refine gx_idiv X 65 66 dX7_handed_65 rfl ?_
    refine gx_imul X 66 67 dX7_handed_66 rfl ?_
    exact gx_iret X 67 hr dX7_handed_67
  refine gx_sub [] rfl ?_
  exact hk_41 m5
def fX7_ford (a1 : Int32) (μ : Mm) : Aa := mm_cl (fX7_isPerson a1 μ) (fun (x1 : Int32) (m2 : Mm) => mm_lt (fun (x3 : Int32) (m4 : Mm) => some (x3, m4)) (fun (k_40 : Int32 → Mm → Aa) => if x1 = 0 then (k_40 ((-1)) m2) else (mm_ck 5 6 (if (m2 2 (5 : Int32).toNatClampNeg) = 0 then (k_40 ((-2)) m2) else (mm_ck 5 6 (mm_cl (fX7_paceOf a1 m2) (fun (x5 : Int32) (m6 : Mm) => k_40 (((m2 2 (5 : Int32).toNatClampNeg) * x5) + 1) m6)))))))
abbrev rX7_ford : Room := { frames := 2, cells := 0, slots := 0, locals := 46 }
set_option maxRecDepth 100000 in
set_option maxHeartbeats 8000000 in
theorem tX7_ford {l : Launch} {D : va_G} {cA : Nat → ClassId} {adr : Nat → Nat} (hJ : mm_J adr NM) (a1 : Int32) (μ : Mm) : mm_Mi l D cA adr sM NM mm_SM yX7_ford cX7_ford 2 (some .int) rX7_ford [.ref (adr 0), .int a1] μ (fX7_ford a1 μ) := by
  refine mm_entryi hJ mm_okM (by decide) (Nat.le_of_ble_eq_true rfl) ⟨rfl, rfl⟩ (fun p e s m below meth c X hr => ?_)
  generalize ([.ref (adr 0), .int a1] : List Value).toArray = args at X ⊢
  refine gx_lv (lv' := [(0, .ref (adr 0)), (1, .int a1)]) rfl ?_
  unfold fX7_ford
  refine gx_aload_n X 0 1 0 dX7_ford_0 rfl rfl rfl ?_
  refine gx_iload_n X 1 2 1 dX7_ford_1 rfl rfl rfl ?_
  refine gx_calliV X 2 5 0 (rest := []) (As := [.int a1]) (tX7_isPerson hJ a1 μ) (by decide) rfl rfl wc_X7_isPerson wl_X7_136 wi_X7_isPerson ws_X7_isPerson wn_X7 rfl hd_X7_isPerson ⟨Nat.le_of_ble_eq_true rfl, Nat.le_of_ble_eq_true rfl⟩ ⟨rfl, rfl⟩ rfl rfl (Nat.le_of_ble_eq_true rfl) dX7_ford_2 rfl (fun x1 m2 => ?_)
  refine gx_jn (fun (k : Int32 → Mm → Aa) => ∀ (x3 : Int32) (m4 : Mm), mm_G p l e rX7_ford s m args below meth c 2 D cA adr sM NM (mm_Qi D cA adr sM NM) m4 40 [] [.int x3] (k x3 m4)) ?_ (fun k_40 hk_40 => ?_)
  · intro x3 m4
    exact gx_iret X 40 hr dX7_ford_40
  refine gx_if_ne X 5 12 8 dX7_ford_5 rfl rfl ?_ ?_
  · refine gx_aload_n X 12 13 0 dX7_ford_12 rfl rfl rfl ?_
    refine gx_getR X 13 16 0 (by decide) rfl rfl fg_X7_13 dX7_ford_13 rfl ?_
    refine gx_iconst X 16 17 (5) dX7_ford_16 rfl ci_5 ?_
    refine gx_iaload X 17 18 2 (by decide) rfl dX7_ford_17 rfl ?_
    refine gx_if_ne X 18 26 21 dX7_ford_18 rfl rfl ?_ ?_
    · refine gx_aload_n X 26 27 0 dX7_ford_26 rfl rfl rfl ?_
      refine gx_getR X 27 30 0 (by decide) rfl rfl fg_X7_13 dX7_ford_27 rfl ?_
      refine gx_iconst X 30 31 (5) dX7_ford_30 rfl ci_5 ?_
      refine gx_iaload X 31 32 2 (by decide) rfl dX7_ford_31 rfl ?_
      refine gx_aload_n X 32 33 0 dX7_ford_32 rfl rfl rfl ?_
      refine gx_iload_n X 33 34 1 dX7_ford_33 rfl rfl rfl ?_
      refine gx_calliV X 34 37 0 (rest := [.int (m2 2 (5 : Int32).toNatClampNeg)]) (As := [.int a1]) (tX7_paceOf hJ a1 m2) (by decide) rfl rfl wc_X7_paceOf wl_X7_140 wi_X7_paceOf ws_X7_paceOf wn_X7 rfl hd_X7_paceOf ⟨Nat.le_of_ble_eq_true rfl, Nat.le_of_ble_eq_true rfl⟩ ⟨rfl, rfl⟩ rfl rfl (Nat.le_of_ble_eq_true rfl) dX7_ford_34 rfl (fun x5 m6 => ?_)
      refine gx_imul X 37 38 dX7_ford_37 rfl ?_
      refine gx_iconst X 38 39 (1) dX7_ford_38 rfl ci_1 ?_
      refine gx_iadd X 39 40 dX7_ford_39 rfl ?_
      refine gx_sub [] rfl ?_
      exact hk_40 (((m2 2 (5 : Int32).toNatClampNeg) * x5) + 1) m6
    refine gx_bipush X 21 23 (-2) dX7_ford_21 rfl cb_m2 ?_
    refine gx_goto X 23 40 dX7_ford_23 rfl ?_
    refine gx_sub [] rfl ?_
    exact hk_40 ((-2)) m2
  refine gx_iconst X 8 9 (-1) dX7_ford_8 rfl ci_m1 ?_
  refine gx_goto X 9 40 dX7_ford_9 rfl ?_
  refine gx_sub [] rfl ?_
  exact hk_40 ((-1)) m2
def fX7_shared_L32 (a1 : Int32) (k_118 : Int32 → Int32 → Mm → Aa) (rec_32 : Int32 → Int32 → Int32 → Mm → Aa) (x14 : Int32) (x15 : Int32) (x16 : Int32) (m17 : Mm) : Aa := if (1 <<< ((m17 0 1) &&& 31)) ≤ x16 then (k_118 x14 x15 m17) else (mm_cl (fX7_onesOf x16 m17) (fun (x18 : Int32) (m19 : Mm) => mm_lt (fun (x20 : Int32) (x21 : Int32) (m22 : Mm) => mm_lt (x16 + 1) (fun (x23 : Int32) => rec_32 x20 x21 x23 m22)) (fun (k_112 : Int32 → Int32 → Mm → Aa) => if a1 < x18 then (k_112 x14 x15 m19) else (mm_cl (fX7_begin m19) (fun (x24 : Int32) (m25 : Mm) => mm_lt (mm_wr m25 0 27 x16) (fun (m26 : Mm) => mm_cl (fX7_goTo 999 m26) (fun (x27 : Int32) (m28 : Mm) => mm_cl (fX7_sumOver m28) (fun (x29 : Int32) (m30 : Mm) => mm_lt x29 (fun (x31 : Int32) => mm_lt (fun (m32 : Mm) => mm_lt x16 (fun (x33 : Int32) => mm_lt x31 (fun (x34 : Int32) => k_112 x33 x34 m32))) (fun (k_105 : Mm → Aa) => if x14 < 0 then (k_105 m30) else (if x31 < x15 then (k_105 m30) else (if x31 = x15 then (mm_cl (fX7_onesOf x16 m30) (fun (x35 : Int32) (m36 : Mm) => mm_cl (fX7_onesOf x14 m36) (fun (x37 : Int32) (m38 : Mm) => if x37 ≤ x35 then (k_112 x14 x15 m38) else (k_105 m38)))) else (k_112 x14 x15 m30)))))))))))))
def fX7_shared (a1 : Int32) (a2 : Int32) (μ : Mm) : Aa := mm_cl (fX7_in a1.toInt64 0 10 μ) (fun (x1 : Int32) (m2 : Mm) => mm_lt (fun (m3 : Mm) => some ((-1), m3)) (fun (k_22 : Mm → Aa) => if x1 = 0 then (k_22 m2) else (mm_cl (fX7_in a2.toInt64 0 1 m2) (fun (x4 : Int32) (m5 : Mm) => if x4 = 0 then (k_22 m5) else (mm_lt ((-1)) (fun (x6 : Int32) => mm_lt 0 (fun (x7 : Int32) => mm_lt 0 (fun (x8 : Int32) => mm_lt (fun (x9 : Int32) (x10 : Int32) (m11 : Mm) => mm_lt (fun (x12 : Int32) (m13 : Mm) => some (x12, m13)) (fun (k_128 : Int32 → Mm → Aa) => if a2 = 0 then (k_128 x9 m11) else (k_128 x10 m11))) (fun (k_118 : Int32 → Int32 → Mm → Aa) => mm_lk (fun (_ : Int32) (_ : Int32) (_ : Int32) (_ : Mm) => (none : Aa)) (fX7_shared_L32 a1 k_118) mm_fu x6 x7 x8 m5)))))))))
abbrev rX7_shared : Room := { frames := 5, cells := 0, slots := 0, locals := 114 }
set_option maxRecDepth 100000 in
set_option maxHeartbeats 8000000 in
theorem tX7_shared {l : Launch} {D : va_G} {cA : Nat → ClassId} {adr : Nat → Nat} (hJ : mm_J adr NM) (a1 : Int32) (a2 : Int32) (μ : Mm) : mm_Mi l D cA adr sM NM mm_SM yX7_shared cX7_shared 7 (some .int) rX7_shared [.ref (adr 0), .int a1, .int a2] μ (fX7_shared a1 a2 μ) := by
  refine mm_entryi hJ mm_okM (by decide) (Nat.le_of_ble_eq_true rfl) ⟨rfl, rfl⟩ (fun p e s m below meth c X hr => ?_)
  generalize ([.ref (adr 0), .int a1, .int a2] : List Value).toArray = args at X ⊢
  refine gx_lv (lv' := [(0, .ref (adr 0)), (1, .int a1), (2, .int a2)]) rfl ?_
  unfold fX7_shared
  refine gx_iload_n X 0 1 1 dX7_shared_0 rfl rfl rfl ?_
  refine gx_i2l X 1 2 dX7_shared_1 rfl ?_
  refine gx_lconst X 2 3 (0) dX7_shared_2 rfl cl_0 ?_
  refine gx_ldc2_w X 3 6 wk_X7_304 dX7_shared_3 rfl ?_
  refine gx_calliS X 6 9 (rest := []) (As := [.long a1.toInt64, .long 0, .long 10]) (tX7_in hJ a1.toInt64 0 10 μ) wc_X7_in wl_X7_101 wt_X7_in wn_X7 hd_X7_in ⟨Nat.le_of_ble_eq_true rfl, Nat.le_of_ble_eq_true rfl⟩ ⟨rfl, rfl⟩ rfl rfl (Nat.le_of_ble_eq_true rfl) dX7_shared_6 rfl (fun x1 m2 => ?_)
  refine gx_jn (fun (k : Mm → Aa) => ∀ (m3 : Mm), mm_G p l e rX7_shared s m args below meth c 7 D cA adr sM NM (mm_Qi D cA adr sM NM) m3 22 [] [] (k m3)) ?_ (fun k_22 hk_22 => ?_)
  · intro m3
    refine gx_iconst X 22 23 (-1) dX7_shared_22 rfl ci_m1 ?_
    exact gx_iret X 23 hr dX7_shared_23
  refine gx_if_eq X 9 22 12 dX7_shared_9 rfl rfl ?_ ?_
  · refine gx_sub [] rfl ?_
    exact hk_22 m2
  refine gx_iload_n X 12 13 2 dX7_shared_12 rfl rfl rfl ?_
  refine gx_i2l X 13 14 dX7_shared_13 rfl ?_
  refine gx_lconst X 14 15 (0) dX7_shared_14 rfl cl_0 ?_
  refine gx_lconst X 15 16 (1) dX7_shared_15 rfl cl_1 ?_
  refine gx_calliS X 16 19 (rest := []) (As := [.long a2.toInt64, .long 0, .long 1]) (tX7_in hJ a2.toInt64 0 1 m2) wc_X7_in wl_X7_101 wt_X7_in wn_X7 hd_X7_in ⟨Nat.le_of_ble_eq_true rfl, Nat.le_of_ble_eq_true rfl⟩ ⟨rfl, rfl⟩ rfl rfl (Nat.le_of_ble_eq_true rfl) dX7_shared_16 rfl (fun x4 m5 => ?_)
  refine gx_if_ne X 19 24 22 dX7_shared_19 rfl rfl ?_ ?_
  · refine gx_iconst X 24 25 (-1) dX7_shared_24 rfl ci_m1 ?_
    refine gx_istore_n X 25 26 (fun x6 => [(3, .int x6), (0, .ref (adr 0)), (1, .int a1), (2, .int a2)]) dX7_shared_25 rfl rfl (by decide) (fun _ => rfl) (fun x6 => ?_)
    refine gx_iconst X 26 27 (0) dX7_shared_26 rfl ci_0 ?_
    refine gx_istore X 27 29 (fun x7 => [(4, .int x7), (3, .int x6), (0, .ref (adr 0)), (1, .int a1), (2, .int a2)]) dX7_shared_27 rfl (by decide) (fun _ => rfl) (fun x7 => ?_)
    refine gx_iconst X 29 30 (0) dX7_shared_29 rfl ci_0 ?_
    refine gx_istore X 30 32 (fun x8 => [(5, .int x8), (4, .int x7), (3, .int x6), (0, .ref (adr 0)), (1, .int a1), (2, .int a2)]) dX7_shared_30 rfl (by decide) (fun _ => rfl) (fun x8 => ?_)
    refine gx_jn (fun (k : Int32 → Int32 → Mm → Aa) => ∀ (x9 : Int32) (x10 : Int32) (m11 : Mm), mm_G p l e rX7_shared s m args below meth c 7 D cA adr sM NM (mm_Qi D cA adr sM NM) m11 118 [(2, .int a2), (3, .int x9), (4, .int x10)] [] (k x9 x10 m11)) ?_ (fun k_118 hk_118 => ?_)
    · intro x9 x10 m11
      refine gx_iload_n X 118 119 0 dX7_shared_118 rfl rfl rfl ?_
      refine gx_jn (fun (k : Int32 → Mm → Aa) => ∀ (x12 : Int32) (m13 : Mm), mm_G p l e rX7_shared s m args below meth c 7 D cA adr sM NM (mm_Qi D cA adr sM NM) m13 128 [] [.int x12] (k x12 m13)) ?_ (fun k_128 hk_128 => ?_)
      · intro x12 m13
        exact gx_iret X 128 hr dX7_shared_128
      refine gx_if_ne X 119 126 122 dX7_shared_119 rfl rfl ?_ ?_
      · refine gx_iload X 126 128 2 dX7_shared_126 rfl rfl ?_
        refine gx_sub [] rfl ?_
        exact hk_128 x10 m11
      refine gx_iload_n X 122 123 1 dX7_shared_122 rfl rfl rfl ?_
      refine gx_goto X 123 128 dX7_shared_123 rfl ?_
      refine gx_sub [] rfl ?_
      exact hk_128 x9 m11
    refine gx_sub [3, 4, 5, 2, 1, 0] rfl ?_
    refine mm_lk_ind (fun (rec : Int32 → Int32 → Int32 → Mm → Aa) => ∀ (x14 : Int32) (x15 : Int32) (x16 : Int32) (m17 : Mm), mm_G p l e rX7_shared s m args below meth c 7 D cA adr sM NM (mm_Qi D cA adr sM NM) m17 32 [(0, .ref (adr 0)), (1, .int a1), (2, .int a2), (3, .int x14), (4, .int x15), (5, .int x16)] [] (rec x14 x15 x16 m17)) (fun _ _ _ _ => gx_none) (fun rec_32 hr_32 x14 x15 x16 m17 => ?_) mm_fu x6 x7 x8 m5
    unfold fX7_shared_L32
    refine gx_iload X 32 34 5 dX7_shared_32 rfl rfl ?_
    refine gx_iconst X 34 35 (1) dX7_shared_34 rfl ci_1 ?_
    refine gx_aload_n X 35 36 0 dX7_shared_35 rfl rfl rfl ?_
    refine gx_getI X 36 39 0 (by decide) rfl rfl fg_X7_98 dX7_shared_36 rfl ?_
    refine gx_ishl X 39 40 dX7_shared_39 rfl ?_
    refine gx_icmp_ge X 40 118 43 dX7_shared_40 rfl rfl ?_ ?_
    · refine gx_sub [2, 3, 4] rfl ?_
      exact hk_118 x14 x15 m17
    refine gx_iload X 43 45 5 dX7_shared_43 rfl rfl ?_
    refine gx_calliS X 45 48 (rest := []) (As := [.int x16]) (tX7_onesOf hJ x16 m17) wc_X7_onesOf wl_X7_262 wt_X7_onesOf wn_X7 hd_X7_onesOf ⟨Nat.le_of_ble_eq_true rfl, Nat.le_of_ble_eq_true rfl⟩ ⟨rfl, rfl⟩ rfl rfl (Nat.le_of_ble_eq_true rfl) dX7_shared_45 rfl (fun x18 m19 => ?_)
    refine gx_iload_n X 48 49 1 dX7_shared_48 rfl rfl rfl ?_
    refine gx_jn (fun (k : Int32 → Int32 → Mm → Aa) => ∀ (x20 : Int32) (x21 : Int32) (m22 : Mm), mm_G p l e rX7_shared s m args below meth c 7 D cA adr sM NM (mm_Qi D cA adr sM NM) m22 112 [(0, .ref (adr 0)), (1, .int a1), (2, .int a2), (3, .int x20), (4, .int x21), (5, .int x16)] [] (k x20 x21 m22)) ?_ (fun k_112 hk_112 => ?_)
    · intro x20 x21 m22
      refine gx_iinc X 112 115 5 (1) (fun x23 => [(5, .int x23), (0, .ref (adr 0)), (1, .int a1), (2, .int a2), (3, .int x20), (4, .int x21)]) dX7_shared_112 rfl rfl ci_1 (by decide) (fun _ => rfl) (fun x23 => ?_)
      refine gx_goto X 115 32 dX7_shared_115 rfl ?_
      refine gx_sub [1, 2, 3, 4, 5, 0] rfl ?_
      exact hr_32 x20 x21 x23 m22
    refine gx_icmp_gt X 49 112 52 dX7_shared_49 rfl rfl ?_ ?_
    · exact hk_112 x14 x15 m19
    refine gx_aload_n X 52 53 0 dX7_shared_52 rfl rfl rfl ?_
    refine gx_callvV X 53 56 0 (rest := []) (As := []) (tX7_begin hJ m19) (by decide) rfl rfl wc_X7_begin wl_X7_237 wi_X7_begin ws_X7_begin wn_X7 rfl hd_X7_begin ⟨Nat.le_of_ble_eq_true rfl, Nat.le_of_ble_eq_true rfl⟩ ⟨rfl, rfl⟩ rfl rfl (Nat.le_of_ble_eq_true rfl) dX7_shared_53 rfl (fun x24 m25 => ?_)
    refine gx_aload_n X 56 57 0 dX7_shared_56 rfl rfl rfl ?_
    refine gx_iload X 57 59 5 dX7_shared_57 rfl rfl ?_
    refine gx_putI X 59 62 0 (by decide) rfl rfl fp_X7_68 dX7_shared_59 rfl (fun m26 => ?_)
    refine gx_aload_n X 62 63 0 dX7_shared_62 rfl rfl rfl ?_
    refine gx_sipush X 63 66 (999) dX7_shared_63 rfl cs_999 ?_
    refine gx_callvV X 66 69 0 (rest := []) (As := [.int 999]) (tX7_goTo hJ 999 m26) (by decide) rfl rfl wc_X7_goTo wl_X7_240 wi_X7_goTo ws_X7_goTo wn_X7 rfl hd_X7_goTo ⟨Nat.le_of_ble_eq_true rfl, Nat.le_of_ble_eq_true rfl⟩ ⟨rfl, rfl⟩ rfl rfl (Nat.le_of_ble_eq_true rfl) dX7_shared_66 rfl (fun x27 m28 => ?_)
    refine gx_aload_n X 69 70 0 dX7_shared_69 rfl rfl rfl ?_
    refine gx_calliV X 70 73 0 (rest := []) (As := []) (tX7_sumOver hJ m28) (by decide) rfl rfl wc_X7_sumOver wl_X7_253 wi_X7_sumOver ws_X7_sumOver wn_X7 rfl hd_X7_sumOver ⟨Nat.le_of_ble_eq_true rfl, Nat.le_of_ble_eq_true rfl⟩ ⟨rfl, rfl⟩ rfl rfl (Nat.le_of_ble_eq_true rfl) dX7_shared_70 rfl (fun x29 m30 => ?_)
    refine gx_istore X 73 75 (fun x31 => [(6, .int x31), (0, .ref (adr 0)), (1, .int a1), (2, .int a2), (3, .int x14), (4, .int x15), (5, .int x16)]) dX7_shared_73 rfl (by decide) (fun _ => rfl) (fun x31 => ?_)
    refine gx_iload_n X 75 76 4 dX7_shared_75 rfl rfl rfl ?_
    refine gx_jn (fun (k : Mm → Aa) => ∀ (m32 : Mm), mm_G p l e rX7_shared s m args below meth c 7 D cA adr sM NM (mm_Qi D cA adr sM NM) m32 105 [(0, .ref (adr 0)), (1, .int a1), (2, .int a2), (5, .int x16), (6, .int x31)] [] (k m32)) ?_ (fun k_105 hk_105 => ?_)
    · intro m32
      refine gx_iload X 105 107 3 dX7_shared_105 rfl rfl ?_
      refine gx_istore_n X 107 108 (fun x33 => [(3, .int x33), (0, .ref (adr 0)), (1, .int a1), (2, .int a2), (5, .int x16), (6, .int x31)]) dX7_shared_107 rfl rfl (by decide) (fun _ => rfl) (fun x33 => ?_)
      refine gx_iload X 108 110 5 dX7_shared_108 rfl rfl ?_
      refine gx_istore X 110 112 (fun x34 => [(4, .int x34), (3, .int x33), (0, .ref (adr 0)), (1, .int a1), (2, .int a2), (5, .int x16), (6, .int x31)]) dX7_shared_110 rfl (by decide) (fun _ => rfl) (fun x34 => ?_)
      refine gx_sub [2, 3, 4, 1, 0, 5] rfl ?_
      exact hk_112 x33 x34 m32
    refine gx_if_lt X 76 105 79 dX7_shared_76 rfl rfl ?_ ?_
    · refine gx_sub [1, 2, 3, 6, 0] rfl ?_
      exact hk_105 m30
    refine gx_iload X 79 81 0 dX7_shared_79 rfl rfl ?_
    refine gx_iload X 81 83 5 dX7_shared_81 rfl rfl ?_
    refine gx_icmp_lt X 83 105 86 dX7_shared_83 rfl rfl ?_ ?_
    · refine gx_sub [1, 2, 3, 6, 0] rfl ?_
      exact hk_105 m30
    refine gx_iload X 86 88 0 dX7_shared_86 rfl rfl ?_
    refine gx_iload X 88 90 5 dX7_shared_88 rfl rfl ?_
    refine gx_icmp_ne X 90 112 93 dX7_shared_90 rfl rfl ?_ ?_
    · refine gx_sub [1, 2, 3, 4, 5, 6] rfl ?_
      exact hk_112 x14 x15 m30
    refine gx_iload X 93 95 6 dX7_shared_93 rfl rfl ?_
    refine gx_calliS X 95 98 (rest := []) (As := [.int x16]) (tX7_onesOf hJ x16 m30) wc_X7_onesOf wl_X7_262 wt_X7_onesOf wn_X7 hd_X7_onesOf ⟨Nat.le_of_ble_eq_true rfl, Nat.le_of_ble_eq_true rfl⟩ ⟨rfl, rfl⟩ rfl rfl (Nat.le_of_ble_eq_true rfl) dX7_shared_95 rfl (fun x35 m36 => ?_)
    refine gx_iload_n X 98 99 4 dX7_shared_98 rfl rfl rfl ?_
    refine gx_calliS X 99 102 (rest := [.int x35]) (As := [.int x14]) (tX7_onesOf hJ x14 m36) wc_X7_onesOf wl_X7_262 wt_X7_onesOf wn_X7 hd_X7_onesOf ⟨Nat.le_of_ble_eq_true rfl, Nat.le_of_ble_eq_true rfl⟩ ⟨rfl, rfl⟩ rfl rfl (Nat.le_of_ble_eq_true rfl) dX7_shared_99 rfl (fun x37 m38 => ?_)
    refine gx_icmp_ge X 102 112 105 dX7_shared_102 rfl rfl ?_ ?_
    · refine gx_sub [1, 2, 3, 4, 5, 6] rfl ?_
      exact hk_112 x14 x15 m38
    refine gx_sub [1, 2, 3, 6, 0] rfl ?_
    exact hk_105 m38
  refine gx_sub [] rfl ?_
  exact hk_22 m5
def fX7_late (a1 : Int32) (a2 : Int32) (a3 : Int32) (a4 : Int32) (μ : Mm) : Aa := mm_cl (fX7_in a1.toInt64 1 40 μ) (fun (x1 : Int32) (m2 : Mm) => mm_lt (fun (m3 : Mm) => some ((-1), m3)) (fun (k_47 : Mm → Aa) => if x1 = 0 then (k_47 m2) else (mm_cl (fX7_in a2.toInt64 1 400 m2) (fun (x4 : Int32) (m5 : Mm) => if x4 = 0 then (k_47 m5) else (mm_cl (fX7_in a3.toInt64 1 400 m5) (fun (x6 : Int32) (m7 : Mm) => if x6 = 0 then (k_47 m7) else (mm_cl (fX7_in a4.toInt64 0 1 m7) (fun (x8 : Int32) (m9 : Mm) => if x8 = 0 then (k_47 m9) else (mm_ck 0 6 (mm_lt (m9 2 (0 : Int32).toNatClampNeg) (fun (x10 : Int32) => if x10 = 0 then (some ((-2), m9)) else (mm_lt ((a1 * (a3 - 1)) - a2) (fun (x11 : Int32) => mm_lt (fun (x12 : Int32) (m13 : Mm) => mm_lt x12 (fun (x14 : Int32) => mm_lt ((a1 * a3) - a2) (fun (x15 : Int32) => mm_lt (fun (m16 : Mm) => some ((-4), m16)) (fun (k_114 : Mm → Aa) => if x15 < 0 then (k_114 m13) else (mm_nz x10 (if x14 ≤ (x15 / x10) then (mm_lt (fun (x17 : Int32) (m18 : Mm) => some (x17, m18)) (fun (k_132 : Int32 → Mm → Aa) => if a4 = 0 then (k_132 x14 m13) else (mm_nz x10 (k_132 (x15 / x10) m13)))) else (k_114 m13))))))) (fun (k_90 : Int32 → Mm → Aa) => if 0 ≤ x11 then (mm_nz x10 (k_90 ((x11 / x10) + 1) m9)) else (k_90 0 m9)))))))))))))))
abbrev rX7_late : Room := { frames := 1, cells := 0, slots := 0, locals := 25 }
set_option maxRecDepth 100000 in
set_option maxHeartbeats 8000000 in
theorem tX7_late {l : Launch} {D : va_G} {cA : Nat → ClassId} {adr : Nat → Nat} (hJ : mm_J adr NM) (a1 : Int32) (a2 : Int32) (a3 : Int32) (a4 : Int32) (μ : Mm) : mm_Mi l D cA adr sM NM mm_SM yX7_late cX7_late 9 (some .int) rX7_late [.ref (adr 0), .int a1, .int a2, .int a3, .int a4] μ (fX7_late a1 a2 a3 a4 μ) := by
  refine mm_entryi hJ mm_okM (by decide) (Nat.le_of_ble_eq_true rfl) ⟨rfl, rfl⟩ (fun p e s m below meth c X hr => ?_)
  generalize ([.ref (adr 0), .int a1, .int a2, .int a3, .int a4] : List Value).toArray = args at X ⊢
  refine gx_lv (lv' := [(0, .ref (adr 0)), (1, .int a1), (2, .int a2), (3, .int a3), (4, .int a4)]) rfl ?_
  unfold fX7_late
  refine gx_iload_n X 0 1 1 dX7_late_0 rfl rfl rfl ?_
  refine gx_i2l X 1 2 dX7_late_1 rfl ?_
  refine gx_lconst X 2 3 (1) dX7_late_2 rfl cl_1 ?_
  refine gx_ldc2_w X 3 6 wk_X7_306 dX7_late_3 rfl ?_
  refine gx_calliS X 6 9 (rest := []) (As := [.long a1.toInt64, .long 1, .long 40]) (tX7_in hJ a1.toInt64 1 40 μ) wc_X7_in wl_X7_101 wt_X7_in wn_X7 hd_X7_in ⟨Nat.le_of_ble_eq_true rfl, Nat.le_of_ble_eq_true rfl⟩ ⟨rfl, rfl⟩ rfl rfl (Nat.le_of_ble_eq_true rfl) dX7_late_6 rfl (fun x1 m2 => ?_)
  refine gx_jn (fun (k : Mm → Aa) => ∀ (m3 : Mm), mm_G p l e rX7_late s m args below meth c 9 D cA adr sM NM (mm_Qi D cA adr sM NM) m3 47 [] [] (k m3)) ?_ (fun k_47 hk_47 => ?_)
  · intro m3
    refine gx_iconst X 47 48 (-1) dX7_late_47 rfl ci_m1 ?_
    exact gx_iret X 48 hr dX7_late_48
  refine gx_if_eq X 9 47 12 dX7_late_9 rfl rfl ?_ ?_
  · refine gx_sub [] rfl ?_
    exact hk_47 m2
  refine gx_iload_n X 12 13 2 dX7_late_12 rfl rfl rfl ?_
  refine gx_i2l X 13 14 dX7_late_13 rfl ?_
  refine gx_lconst X 14 15 (1) dX7_late_14 rfl cl_1 ?_
  refine gx_ldc2_w X 15 18 wk_X7_105 dX7_late_15 rfl ?_
  refine gx_calliS X 18 21 (rest := []) (As := [.long a2.toInt64, .long 1, .long 400]) (tX7_in hJ a2.toInt64 1 400 m2) wc_X7_in wl_X7_101 wt_X7_in wn_X7 hd_X7_in ⟨Nat.le_of_ble_eq_true rfl, Nat.le_of_ble_eq_true rfl⟩ ⟨rfl, rfl⟩ rfl rfl (Nat.le_of_ble_eq_true rfl) dX7_late_18 rfl (fun x4 m5 => ?_)
  refine gx_if_eq X 21 47 24 dX7_late_21 rfl rfl ?_ ?_
  · refine gx_sub [] rfl ?_
    exact hk_47 m5
  refine gx_iload_n X 24 25 3 dX7_late_24 rfl rfl rfl ?_
  refine gx_i2l X 25 26 dX7_late_25 rfl ?_
  refine gx_lconst X 26 27 (1) dX7_late_26 rfl cl_1 ?_
  refine gx_ldc2_w X 27 30 wk_X7_105 dX7_late_27 rfl ?_
  refine gx_calliS X 30 33 (rest := []) (As := [.long a3.toInt64, .long 1, .long 400]) (tX7_in hJ a3.toInt64 1 400 m5) wc_X7_in wl_X7_101 wt_X7_in wn_X7 hd_X7_in ⟨Nat.le_of_ble_eq_true rfl, Nat.le_of_ble_eq_true rfl⟩ ⟨rfl, rfl⟩ rfl rfl (Nat.le_of_ble_eq_true rfl) dX7_late_30 rfl (fun x6 m7 => ?_)
  refine gx_if_eq X 33 47 36 dX7_late_33 rfl rfl ?_ ?_
  · refine gx_sub [] rfl ?_
    exact hk_47 m7
  refine gx_iload X 36 38 4 dX7_late_36 rfl rfl ?_
  refine gx_i2l X 38 39 dX7_late_38 rfl ?_
  refine gx_lconst X 39 40 (0) dX7_late_39 rfl cl_0 ?_
  refine gx_lconst X 40 41 (1) dX7_late_40 rfl cl_1 ?_
  refine gx_calliS X 41 44 (rest := []) (As := [.long a4.toInt64, .long 0, .long 1]) (tX7_in hJ a4.toInt64 0 1 m7) wc_X7_in wl_X7_101 wt_X7_in wn_X7 hd_X7_in ⟨Nat.le_of_ble_eq_true rfl, Nat.le_of_ble_eq_true rfl⟩ ⟨rfl, rfl⟩ rfl rfl (Nat.le_of_ble_eq_true rfl) dX7_late_41 rfl (fun x8 m9 => ?_)
  refine gx_if_ne X 44 49 47 dX7_late_44 rfl rfl ?_ ?_
  · refine gx_aload_n X 49 50 0 dX7_late_49 rfl rfl rfl ?_
    refine gx_getR X 50 53 0 (by decide) rfl rfl fg_X7_13 dX7_late_50 rfl ?_
    refine gx_iconst X 53 54 (0) dX7_late_53 rfl ci_0 ?_
    refine gx_iaload X 54 55 2 (by decide) rfl dX7_late_54 rfl ?_
    refine gx_istore X 55 57 (fun x10 => [(5, .int x10), (0, .ref (adr 0)), (1, .int a1), (2, .int a2), (3, .int a3), (4, .int a4)]) dX7_late_55 rfl (by decide) (fun _ => rfl) (fun x10 => ?_)
    refine gx_iload X 57 59 0 dX7_late_57 rfl rfl ?_
    refine gx_if_ne X 59 65 62 dX7_late_59 rfl rfl ?_ ?_
    · refine gx_iload_n X 65 66 2 dX7_late_65 rfl rfl rfl ?_
      refine gx_iload_n X 66 67 4 dX7_late_66 rfl rfl rfl ?_
      refine gx_iconst X 67 68 (1) dX7_late_67 rfl ci_1 ?_
      refine gx_isub X 68 69 dX7_late_68 rfl ?_
      refine gx_imul X 69 70 dX7_late_69 rfl ?_
      refine gx_iload_n X 70 71 3 dX7_late_70 rfl rfl rfl ?_
      refine gx_isub X 71 72 dX7_late_71 rfl ?_
      refine gx_istore X 72 74 (fun x11 => [(6, .int x11), (5, .int x10), (0, .ref (adr 0)), (1, .int a1), (2, .int a2), (3, .int a3), (4, .int a4)]) dX7_late_72 rfl (by decide) (fun _ => rfl) (fun x11 => ?_)
      refine gx_iload X 74 76 0 dX7_late_74 rfl rfl ?_
      refine gx_jn (fun (k : Int32 → Mm → Aa) => ∀ (x12 : Int32) (m13 : Mm), mm_G p l e rX7_late s m args below meth c 9 D cA adr sM NM (mm_Qi D cA adr sM NM) m13 90 [(1, .int a1), (2, .int a2), (3, .int a3), (4, .int a4), (5, .int x10)] [.int x12] (k x12 m13)) ?_ (fun k_90 hk_90 => ?_)
      · intro x12 m13
        refine gx_istore X 90 92 (fun x14 => [(7, .int x14), (1, .int a1), (2, .int a2), (3, .int a3), (4, .int a4), (5, .int x10)]) dX7_late_90 rfl (by decide) (fun _ => rfl) (fun x14 => ?_)
        refine gx_iload_n X 92 93 1 dX7_late_92 rfl rfl rfl ?_
        refine gx_iload_n X 93 94 3 dX7_late_93 rfl rfl rfl ?_
        refine gx_imul X 94 95 dX7_late_94 rfl ?_
        refine gx_iload_n X 95 96 2 dX7_late_95 rfl rfl rfl ?_
        refine gx_isub X 96 97 dX7_late_96 rfl ?_
        refine gx_istore X 97 99 (fun x15 => [(8, .int x15), (7, .int x14), (1, .int a1), (2, .int a2), (3, .int a3), (4, .int a4), (5, .int x10)]) dX7_late_97 rfl (by decide) (fun _ => rfl) (fun x15 => ?_)
        refine gx_iload X 99 101 0 dX7_late_99 rfl rfl ?_
        refine gx_jn (fun (k : Mm → Aa) => ∀ (m16 : Mm), mm_G p l e rX7_late s m args below meth c 9 D cA adr sM NM (mm_Qi D cA adr sM NM) m16 114 [] [] (k m16)) ?_ (fun k_114 hk_114 => ?_)
        · intro m16
          refine gx_bipush X 114 116 (-4) dX7_late_114 rfl cb_m4 ?_
          exact gx_iret X 116 hr dX7_late_116
        refine gx_if_lt X 101 114 104 dX7_late_101 rfl rfl ?_ ?_
        · refine gx_sub [] rfl ?_
          exact hk_114 m13
        refine gx_iload X 104 106 0 dX7_late_104 rfl rfl ?_
        refine gx_iload X 106 108 6 dX7_late_106 rfl rfl ?_
        refine gx_idiv X 108 109 dX7_late_108 rfl ?_
        refine gx_iload X 109 111 1 dX7_late_109 rfl rfl ?_
        refine gx_icmp_ge X 111 117 114 dX7_late_111 rfl rfl ?_ ?_
        · refine gx_iload X 117 119 5 dX7_late_117 rfl rfl ?_
          refine gx_jn (fun (k : Int32 → Mm → Aa) => ∀ (x17 : Int32) (m18 : Mm), mm_G p l e rX7_late s m args below meth c 9 D cA adr sM NM (mm_Qi D cA adr sM NM) m18 132 [] [.int x17] (k x17 m18)) ?_ (fun k_132 hk_132 => ?_)
          · intro x17 m18
            exact gx_iret X 132 hr dX7_late_132
          refine gx_if_ne X 119 127 122 dX7_late_119 rfl rfl ?_ ?_
          · refine gx_iload X 127 129 0 dX7_late_127 rfl rfl ?_
            refine gx_iload X 129 131 6 dX7_late_129 rfl rfl ?_
            refine gx_idiv X 131 132 dX7_late_131 rfl ?_
            refine gx_sub [] rfl ?_
            exact hk_132 (x15 / x10) m13
          refine gx_iload X 122 124 1 dX7_late_122 rfl rfl ?_
          refine gx_goto X 124 132 dX7_late_124 rfl ?_
          refine gx_sub [] rfl ?_
          exact hk_132 x14 m13
        refine gx_sub [] rfl ?_
        exact hk_114 m13
      refine gx_if_ge X 76 83 79 dX7_late_76 rfl rfl ?_ ?_
      · refine gx_iload X 83 85 0 dX7_late_83 rfl rfl ?_
        refine gx_iload X 85 87 1 dX7_late_85 rfl rfl ?_
        refine gx_idiv X 87 88 dX7_late_87 rfl ?_
        refine gx_iconst X 88 89 (1) dX7_late_88 rfl ci_1 ?_
        refine gx_iadd X 89 90 dX7_late_89 rfl ?_
        refine gx_sub [3, 4, 5, 6, 1] rfl ?_
        exact hk_90 ((x11 / x10) + 1) m9
      refine gx_iconst X 79 80 (0) dX7_late_79 rfl ci_0 ?_
      refine gx_goto X 80 90 dX7_late_80 rfl ?_
      refine gx_sub [3, 4, 5, 6, 1] rfl ?_
      exact hk_90 0 m9
    refine gx_bipush X 62 64 (-2) dX7_late_62 rfl cb_m2 ?_
    exact gx_iret X 64 hr dX7_late_64
  refine gx_sub [] rfl ?_
  exact hk_47 m9
def fX7_other (a1 : Int32) (a2 : Int32) (μ : Mm) : Aa := mm_cl (fX7_in a1.toInt64 0 2 μ) (fun (x1 : Int32) (m2 : Mm) => mm_lt (fun (m3 : Mm) => some ((-1), m3)) (fun (k_22 : Mm → Aa) => if x1 = 0 then (k_22 m2) else (mm_cl (fX7_in a2.toInt64 0 1 m2) (fun (x4 : Int32) (m5 : Mm) => if x4 = 0 then (k_22 m5) else (mm_cl (fX7_begin m5) (fun (x6 : Int32) (m7 : Mm) => mm_lt (mm_wr m7 0 26 a1) (fun (m8 : Mm) => mm_cl (fX7_goTo 999 m8) (fun (x9 : Int32) (m10 : Mm) => mm_lt (fun (x11 : Int32) (m12 : Mm) => some (x11, m12)) (fun (k_55 : Int32 → Mm → Aa) => if a2 = 0 then (k_55 (m10 0 23) m10) else (mm_cl (fX7_sumOver m10) (fun (x13 : Int32) (m14 : Mm) => k_55 x13 m14)))))))))))
abbrev rX7_other : Room := { frames := 5, cells := 0, slots := 0, locals := 114 }
set_option maxRecDepth 100000 in
set_option maxHeartbeats 8000000 in
theorem tX7_other {l : Launch} {D : va_G} {cA : Nat → ClassId} {adr : Nat → Nat} (hJ : mm_J adr NM) (a1 : Int32) (a2 : Int32) (μ : Mm) : mm_Mi l D cA adr sM NM mm_SM yX7_other cX7_other 3 (some .int) rX7_other [.ref (adr 0), .int a1, .int a2] μ (fX7_other a1 a2 μ) := by
  refine mm_entryi hJ mm_okM (by decide) (Nat.le_of_ble_eq_true rfl) ⟨rfl, rfl⟩ (fun p e s m below meth c X hr => ?_)
  generalize ([.ref (adr 0), .int a1, .int a2] : List Value).toArray = args at X ⊢
  refine gx_lv (lv' := [(0, .ref (adr 0)), (1, .int a1), (2, .int a2)]) rfl ?_
  unfold fX7_other
  refine gx_iload_n X 0 1 1 dX7_other_0 rfl rfl rfl ?_
  refine gx_i2l X 1 2 dX7_other_1 rfl ?_
  refine gx_lconst X 2 3 (0) dX7_other_2 rfl cl_0 ?_
  refine gx_ldc2_w X 3 6 wk_X7_308 dX7_other_3 rfl ?_
  refine gx_calliS X 6 9 (rest := []) (As := [.long a1.toInt64, .long 0, .long 2]) (tX7_in hJ a1.toInt64 0 2 μ) wc_X7_in wl_X7_101 wt_X7_in wn_X7 hd_X7_in ⟨Nat.le_of_ble_eq_true rfl, Nat.le_of_ble_eq_true rfl⟩ ⟨rfl, rfl⟩ rfl rfl (Nat.le_of_ble_eq_true rfl) dX7_other_6 rfl (fun x1 m2 => ?_)
  refine gx_jn (fun (k : Mm → Aa) => ∀ (m3 : Mm), mm_G p l e rX7_other s m args below meth c 3 D cA adr sM NM (mm_Qi D cA adr sM NM) m3 22 [] [] (k m3)) ?_ (fun k_22 hk_22 => ?_)
  · intro m3
    refine gx_iconst X 22 23 (-1) dX7_other_22 rfl ci_m1 ?_
    exact gx_iret X 23 hr dX7_other_23
  refine gx_if_eq X 9 22 12 dX7_other_9 rfl rfl ?_ ?_
  · refine gx_sub [] rfl ?_
    exact hk_22 m2
  refine gx_iload_n X 12 13 2 dX7_other_12 rfl rfl rfl ?_
  refine gx_i2l X 13 14 dX7_other_13 rfl ?_
  refine gx_lconst X 14 15 (0) dX7_other_14 rfl cl_0 ?_
  refine gx_lconst X 15 16 (1) dX7_other_15 rfl cl_1 ?_
  refine gx_calliS X 16 19 (rest := []) (As := [.long a2.toInt64, .long 0, .long 1]) (tX7_in hJ a2.toInt64 0 1 m2) wc_X7_in wl_X7_101 wt_X7_in wn_X7 hd_X7_in ⟨Nat.le_of_ble_eq_true rfl, Nat.le_of_ble_eq_true rfl⟩ ⟨rfl, rfl⟩ rfl rfl (Nat.le_of_ble_eq_true rfl) dX7_other_16 rfl (fun x4 m5 => ?_)
  refine gx_if_ne X 19 24 22 dX7_other_19 rfl rfl ?_ ?_
  · refine gx_aload_n X 24 25 0 dX7_other_24 rfl rfl rfl ?_
    refine gx_callvV X 25 28 0 (rest := []) (As := []) (tX7_begin hJ m5) (by decide) rfl rfl wc_X7_begin wl_X7_237 wi_X7_begin ws_X7_begin wn_X7 rfl hd_X7_begin ⟨Nat.le_of_ble_eq_true rfl, Nat.le_of_ble_eq_true rfl⟩ ⟨rfl, rfl⟩ rfl rfl (Nat.le_of_ble_eq_true rfl) dX7_other_25 rfl (fun x6 m7 => ?_)
    refine gx_aload_n X 28 29 0 dX7_other_28 rfl rfl rfl ?_
    refine gx_iload_n X 29 30 1 dX7_other_29 rfl rfl rfl ?_
    refine gx_putI X 30 33 0 (by decide) rfl rfl fp_X7_200 dX7_other_30 rfl (fun m8 => ?_)
    refine gx_aload_n X 33 34 0 dX7_other_33 rfl rfl rfl ?_
    refine gx_sipush X 34 37 (999) dX7_other_34 rfl cs_999 ?_
    refine gx_callvV X 37 40 0 (rest := []) (As := [.int 999]) (tX7_goTo hJ 999 m8) (by decide) rfl rfl wc_X7_goTo wl_X7_240 wi_X7_goTo ws_X7_goTo wn_X7 rfl hd_X7_goTo ⟨Nat.le_of_ble_eq_true rfl, Nat.le_of_ble_eq_true rfl⟩ ⟨rfl, rfl⟩ rfl rfl (Nat.le_of_ble_eq_true rfl) dX7_other_37 rfl (fun x9 m10 => ?_)
    refine gx_iload_n X 40 41 2 dX7_other_40 rfl rfl rfl ?_
    refine gx_jn (fun (k : Int32 → Mm → Aa) => ∀ (x11 : Int32) (m12 : Mm), mm_G p l e rX7_other s m args below meth c 3 D cA adr sM NM (mm_Qi D cA adr sM NM) m12 55 [] [.int x11] (k x11 m12)) ?_ (fun k_55 hk_55 => ?_)
    · intro x11 m12
      exact gx_iret X 55 hr dX7_other_55
    refine gx_if_ne X 41 51 44 dX7_other_41 rfl rfl ?_ ?_
    · refine gx_aload_n X 51 52 0 dX7_other_51 rfl rfl rfl ?_
      refine gx_calliV X 52 55 0 (rest := []) (As := []) (tX7_sumOver hJ m10) (by decide) rfl rfl wc_X7_sumOver wl_X7_253 wi_X7_sumOver ws_X7_sumOver wn_X7 rfl hd_X7_sumOver ⟨Nat.le_of_ble_eq_true rfl, Nat.le_of_ble_eq_true rfl⟩ ⟨rfl, rfl⟩ rfl rfl (Nat.le_of_ble_eq_true rfl) dX7_other_52 rfl (fun x13 m14 => ?_)
      refine gx_sub [] rfl ?_
      exact hk_55 x13 m14
    refine gx_aload_n X 44 45 0 dX7_other_44 rfl rfl rfl ?_
    refine gx_getI X 45 48 0 (by decide) rfl rfl fg_X7_191 dX7_other_45 rfl ?_
    refine gx_goto X 48 55 dX7_other_48 rfl ?_
    refine gx_sub [] rfl ?_
    exact hk_55 (m10 0 23) m10
  refine gx_sub [] rfl ?_
  exact hk_22 m5
def fX7_image_L28 (k_52 : Mm → Aa) (rec_28 : Int32 → Mm → Aa) (x8 : Int32) (m9 : Mm) : Aa := if 6 ≤ x8 then (k_52 m9) else (mm_ck x8 6 (mm_ck x8 6 (mm_lt (mm_wr m9 24 x8.toNatClampNeg (m9 2 x8.toNatClampNeg)) (fun (m10 : Mm) => mm_lt (x8 + 1) (fun (x11 : Int32) => rec_28 x11 m10)))))
def fX7_image_L2 (k_26 : Mm → Aa) (rec_2 : Int32 → Mm → Aa) (x12 : Int32) (m13 : Mm) : Aa := if 70 ≤ x12 then (k_26 m13) else (mm_ck x12 70 (mm_ck x12 70 (mm_lt (mm_wr m13 23 x12.toNatClampNeg (m13 1 x12.toNatClampNeg)) (fun (m14 : Mm) => mm_lt (x12 + 1) (fun (x15 : Int32) => rec_2 x15 m14)))))
def fX7_image (μ : Mm) : Aa := mm_lt 0 (fun (x1 : Int32) => mm_lt (fun (m2 : Mm) => mm_lt 0 (fun (x3 : Int32) => mm_lt (fun (m4 : Mm) => mm_lt (mm_wr m4 0 38 (m4 0 1)) (fun (m5 : Mm) => mm_lt (mm_wr m5 0 39 (m5 0 3)) (fun (m6 : Mm) => mm_bo 1 (mm_lt (mm_wr m6 0 35 1) (fun (m7 : Mm) => some (1, m7)))))) (fun (k_52 : Mm → Aa) => mm_lk (fun (_ : Int32) (_ : Mm) => (none : Aa)) (fX7_image_L28 k_52) mm_fu x3 m2))) (fun (k_26 : Mm → Aa) => mm_lk (fun (_ : Int32) (_ : Mm) => (none : Aa)) (fX7_image_L2 k_26) mm_fu x1 μ))
abbrev rX7_image : Room := { frames := 0, cells := 0, slots := 0, locals := 0 }
set_option maxRecDepth 100000 in
set_option maxHeartbeats 8000000 in
theorem tX7_image {l : Launch} {D : va_G} {cA : Nat → ClassId} {adr : Nat → Nat} (hJ : mm_J adr NM) (μ : Mm) : mm_Mi l D cA adr sM NM mm_SM yX7_image cX7_image 2 (some .int) rX7_image [.ref (adr 0)] μ (fX7_image μ) := by
  refine mm_entryi hJ mm_okM (by decide) (Nat.le_of_ble_eq_true rfl) ⟨rfl, rfl⟩ (fun p e s m below meth c X hr => ?_)
  generalize ([.ref (adr 0)] : List Value).toArray = args at X ⊢
  refine gx_lv (lv' := [(0, .ref (adr 0))]) rfl ?_
  unfold fX7_image
  refine gx_iconst X 0 1 (0) dX7_image_0 rfl ci_0 ?_
  refine gx_istore_n X 1 2 (fun x1 => [(1, .int x1), (0, .ref (adr 0))]) dX7_image_1 rfl rfl (by decide) (fun _ => rfl) (fun x1 => ?_)
  refine gx_jn (fun (k : Mm → Aa) => ∀ (m2 : Mm), mm_G p l e rX7_image s m args below meth c 2 D cA adr sM NM (mm_Qi D cA adr sM NM) m2 26 [(0, .ref (adr 0))] [] (k m2)) ?_ (fun k_26 hk_26 => ?_)
  · intro m2
    refine gx_iconst X 26 27 (0) dX7_image_26 rfl ci_0 ?_
    refine gx_istore_n X 27 28 (fun x3 => [(1, .int x3), (0, .ref (adr 0))]) dX7_image_27 rfl rfl (by decide) (fun _ => rfl) (fun x3 => ?_)
    refine gx_jn (fun (k : Mm → Aa) => ∀ (m4 : Mm), mm_G p l e rX7_image s m args below meth c 2 D cA adr sM NM (mm_Qi D cA adr sM NM) m4 52 [(0, .ref (adr 0))] [] (k m4)) ?_ (fun k_52 hk_52 => ?_)
    · intro m4
      refine gx_aload_n X 52 53 0 dX7_image_52 rfl rfl rfl ?_
      refine gx_aload_n X 53 54 0 dX7_image_53 rfl rfl rfl ?_
      refine gx_getI X 54 57 0 (by decide) rfl rfl fg_X7_98 dX7_image_54 rfl ?_
      refine gx_putI X 57 60 0 (by decide) rfl rfl fp_X7_310 dX7_image_57 rfl (fun m5 => ?_)
      refine gx_aload_n X 60 61 0 dX7_image_60 rfl rfl rfl ?_
      refine gx_aload_n X 61 62 0 dX7_image_61 rfl rfl rfl ?_
      refine gx_getI X 62 65 0 (by decide) rfl rfl fg_X7_16 dX7_image_62 rfl ?_
      refine gx_putI X 65 68 0 (by decide) rfl rfl fp_X7_313 dX7_image_65 rfl (fun m6 => ?_)
      refine gx_aload_n X 68 69 0 dX7_image_68 rfl rfl rfl ?_
      refine gx_iconst X 69 70 (1) dX7_image_69 rfl ci_1 ?_
      refine gx_putZ X 70 73 0 (by decide) rfl rfl fp_X7_316 dX7_image_70 rfl (fun m7 => ?_)
      refine gx_iconst X 73 74 (1) dX7_image_73 rfl ci_1 ?_
      exact gx_iret X 74 hr dX7_image_74
    refine gx_sub [1, 0] rfl ?_
    refine mm_lk_ind (fun (rec : Int32 → Mm → Aa) => ∀ (x8 : Int32) (m9 : Mm), mm_G p l e rX7_image s m args below meth c 2 D cA adr sM NM (mm_Qi D cA adr sM NM) m9 28 [(0, .ref (adr 0)), (1, .int x8)] [] (rec x8 m9)) (fun _ _ => gx_none) (fun rec_28 hr_28 x8 m9 => ?_) mm_fu x3 m2
    unfold fX7_image_L28
    refine gx_iload_n X 28 29 1 dX7_image_28 rfl rfl rfl ?_
    refine gx_bipush X 29 31 (6) dX7_image_29 rfl cb_6 ?_
    refine gx_icmp_ge X 31 52 34 dX7_image_31 rfl rfl ?_ ?_
    · refine gx_sub [0] rfl ?_
      exact hk_52 m9
    refine gx_aload_n X 34 35 0 dX7_image_34 rfl rfl rfl ?_
    refine gx_getR X 35 38 0 (by decide) rfl rfl fg_X7_86 dX7_image_35 rfl ?_
    refine gx_iload_n X 38 39 1 dX7_image_38 rfl rfl rfl ?_
    refine gx_aload_n X 39 40 0 dX7_image_39 rfl rfl rfl ?_
    refine gx_getR X 40 43 0 (by decide) rfl rfl fg_X7_13 dX7_image_40 rfl ?_
    refine gx_iload_n X 43 44 1 dX7_image_43 rfl rfl rfl ?_
    refine gx_iaload X 44 45 2 (by decide) rfl dX7_image_44 rfl ?_
    refine gx_iastore X 45 46 24 (by decide) rfl dX7_image_45 rfl (fun m10 => ?_)
    refine gx_iinc X 46 49 1 (1) (fun x11 => [(1, .int x11), (0, .ref (adr 0))]) dX7_image_46 rfl rfl ci_1 (by decide) (fun _ => rfl) (fun x11 => ?_)
    refine gx_goto X 49 28 dX7_image_49 rfl ?_
    refine gx_sub [1, 0] rfl ?_
    exact hr_28 x11 m10
  refine gx_sub [1, 0] rfl ?_
  refine mm_lk_ind (fun (rec : Int32 → Mm → Aa) => ∀ (x12 : Int32) (m13 : Mm), mm_G p l e rX7_image s m args below meth c 2 D cA adr sM NM (mm_Qi D cA adr sM NM) m13 2 [(0, .ref (adr 0)), (1, .int x12)] [] (rec x12 m13)) (fun _ _ => gx_none) (fun rec_2 hr_2 x12 m13 => ?_) mm_fu x1 μ
  unfold fX7_image_L2
  refine gx_iload_n X 2 3 1 dX7_image_2 rfl rfl rfl ?_
  refine gx_bipush X 3 5 (70) dX7_image_3 rfl cb_70 ?_
  refine gx_icmp_ge X 5 26 8 dX7_image_5 rfl rfl ?_ ?_
  · refine gx_sub [0] rfl ?_
    exact hk_26 m13
  refine gx_aload_n X 8 9 0 dX7_image_8 rfl rfl rfl ?_
  refine gx_getR X 9 12 0 (by decide) rfl rfl fg_X7_83 dX7_image_9 rfl ?_
  refine gx_iload_n X 12 13 1 dX7_image_12 rfl rfl rfl ?_
  refine gx_aload_n X 13 14 0 dX7_image_13 rfl rfl rfl ?_
  refine gx_getR X 14 17 0 (by decide) rfl rfl fg_X7_7 dX7_image_14 rfl ?_
  refine gx_iload_n X 17 18 1 dX7_image_17 rfl rfl rfl ?_
  refine gx_iaload X 18 19 1 (by decide) rfl dX7_image_18 rfl ?_
  refine gx_iastore X 19 20 23 (by decide) rfl dX7_image_19 rfl (fun m14 => ?_)
  refine gx_iinc X 20 23 1 (1) (fun x15 => [(1, .int x15), (0, .ref (adr 0))]) dX7_image_20 rfl rfl ci_1 (by decide) (fun _ => rfl) (fun x15 => ?_)
  refine gx_goto X 23 2 dX7_image_23 rfl ?_
  refine gx_sub [1, 0] rfl ?_
  exact hr_2 x15 m14
