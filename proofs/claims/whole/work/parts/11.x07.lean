def fX6_fate (a1 : Int32) (a2 : Int32) (μ : Mm) : Aa := mm_cl (fX3_has a1 μ) (fun (x1 : Int32) (m2 : Mm) => mm_lt (fun (m3 : Mm) => some ((-1), m3)) (fun (k_20 : Mm → Aa) => if x1 = 0 then (k_20 m2) else (if a2 < 0 then (k_20 m2) else (if a2 ≤ 4 then (mm_cl (fX0_load m2) (fun (x4 : Int32) (m5 : Mm) => mm_cl (fX0_run 999 m5) (fun (x6 : Int32) (m7 : Mm) => mm_ck a1 10 (if a2 = 0 then (mm_lt (fun (x9 : Int32) (m10 : Mm) => some (x9, m10)) (fun (k_101 : Int32 → Mm → Aa) => if (m7 ((34 + a1.toNatClampNeg)) 8) = 4 then (k_101 (m7 ((34 + a1.toNatClampNeg)) 14) m7) else (k_101 ((-4)) m7))) else (if a2 = 1 then (some (m7 ((34 + a1.toNatClampNeg)) 10, m7)) else (if a2 = 2 then (some (m7 ((34 + a1.toNatClampNeg)) 15, m7)) else (if a2 = 3 then (some (m7 ((34 + a1.toNatClampNeg)) 16, m7)) else (some (m7 ((34 + a1.toNatClampNeg)) 17, m7))))))))) else (k_20 m2)))))
abbrev rX6_fate : Room := { frames := 5, cells := 0, slots := 0, locals := 110 }
set_option maxRecDepth 100000 in
set_option maxHeartbeats 8000000 in
theorem tX6_fate {l : Launch} {D : va_G} {cA : Nat → ClassId} {adr : Nat → Nat} {tt sK sV : Nat → Nat} {qv : Value} (hJ : mm_J adr NX) (a1 : Int32) (a2 : Int32) (μ : Mm) : mm_Mi l D cA adr sX NX (mm_SX (mm_A adr NX) tt sK sV qv) yX6_fate cX6_fate 4 (some .int) rX6_fate [.ref (adr 0), .int a1, .int a2] μ (fX6_fate a1 a2 μ) := by
  refine mm_entryi hJ mm_okX (by decide) (Nat.le_of_ble_eq_true rfl) ⟨rfl, rfl⟩ (fun p e s m below meth c X hr => ?_)
  generalize ([.ref (adr 0), .int a1, .int a2] : List Value).toArray = args at X ⊢
  refine gx_lv (lv' := [(0, .ref (adr 0)), (1, .int a1), (2, .int a2)]) rfl ?_
  unfold fX6_fate
  refine gx_aload_n X 0 1 0 dX6_fate_0 rfl rfl rfl ?_
  refine gx_getR X 1 4 0 (by decide) rfl rfl fg_X6_10 dX6_fate_1 rfl ?_
  refine gx_iload_n X 4 5 1 dX6_fate_4 rfl rfl rfl ?_
  refine gx_calliV X 5 8 1 (rest := []) (As := [.int a1]) (tX3_has hJ a1 μ) (by decide) rfl rfl wc_X3_has wl_X6_83 wi_X3_has ws_X3_has wn_X3 rfl hd_X3_has ⟨Nat.le_of_ble_eq_true rfl, Nat.le_of_ble_eq_true rfl⟩ ⟨rfl, rfl⟩ rfl rfl (Nat.le_of_ble_eq_true rfl) dX6_fate_5 rfl (fun x1 m2 => ?_)
  refine gx_jn (fun (k : Mm → Aa) => ∀ (m3 : Mm), mm_G p l e rX6_fate s m args below meth c 4 D cA adr sX NX (mm_Qi D cA adr sX NX) m3 20 [] [] (k m3)) ?_ (fun k_20 hk_20 => ?_)
  · intro m3
    refine gx_iconst X 20 21 (-1) dX6_fate_20 rfl ci_m1 ?_
    exact gx_iret X 21 hr dX6_fate_21
  refine gx_if_eq X 8 20 11 dX6_fate_8 rfl rfl ?_ ?_
  · refine gx_sub [] rfl ?_
    exact hk_20 m2
  refine gx_iload_n X 11 12 2 dX6_fate_11 rfl rfl rfl ?_
  refine gx_if_lt X 12 20 15 dX6_fate_12 rfl rfl ?_ ?_
  · refine gx_sub [] rfl ?_
    exact hk_20 m2
  refine gx_iload_n X 15 16 2 dX6_fate_15 rfl rfl rfl ?_
  refine gx_iconst X 16 17 (4) dX6_fate_16 rfl ci_4 ?_
  refine gx_icmp_le X 17 22 20 dX6_fate_17 rfl rfl ?_ ?_
  · refine gx_aload_n X 22 23 0 dX6_fate_22 rfl rfl rfl ?_
    refine gx_getR X 23 26 0 (by decide) rfl rfl fg_X6_33 dX6_fate_23 rfl ?_
    refine gx_aload_n X 26 27 0 dX6_fate_26 rfl rfl rfl ?_
    refine gx_getR X 27 30 0 (by decide) rfl rfl fg_X6_10 dX6_fate_27 rfl ?_
    refine gx_callvV X 30 33 30 (rest := []) (As := [.ref (adr 1)]) (tX0_load hJ m2) (by decide) rfl rfl wc_X0_load wl_X6_120 wi_X0_load ws_X0_load wn_X0 rfl hd_X0_load ⟨Nat.le_of_ble_eq_true rfl, Nat.le_of_ble_eq_true rfl⟩ ⟨rfl, rfl⟩ rfl rfl (Nat.le_of_ble_eq_true rfl) dX6_fate_30 rfl (fun x4 m5 => ?_)
    refine gx_aload_n X 33 34 0 dX6_fate_33 rfl rfl rfl ?_
    refine gx_getR X 34 37 0 (by decide) rfl rfl fg_X6_33 dX6_fate_34 rfl ?_
    refine gx_sipush X 37 40 (999) dX6_fate_37 rfl cs_999 ?_
    refine gx_callvV X 40 43 30 (rest := []) (As := [.int 999]) (tX0_run hJ 999 m5) (by decide) rfl rfl wc_X0_run wl_X6_124 wi_X0_run ws_X0_run wn_X0 rfl hd_X0_run ⟨Nat.le_of_ble_eq_true rfl, Nat.le_of_ble_eq_true rfl⟩ ⟨rfl, rfl⟩ rfl rfl (Nat.le_of_ble_eq_true rfl) dX6_fate_40 rfl (fun x6 m7 => ?_)
    refine gx_aload_n X 43 44 0 dX6_fate_43 rfl rfl rfl ?_
    refine gx_getR X 44 47 0 (by decide) rfl rfl fg_X6_33 dX6_fate_44 rfl ?_
    refine gx_getR X 47 50 30 (by decide) rfl rfl fg_X6_127 dX6_fate_47 rfl ?_
    refine gx_iload_n X 50 51 1 dX6_fate_50 rfl rfl rfl ?_
    refine gx_aaload X 51 52 31 (by decide) rfl rfl rfl dX6_fate_51 rfl (fun h8 => ?_)
    refine gx_astore_n X 52 53 [(3, .ref (adr ((34 + a1.toNatClampNeg)))), (0, .ref (adr 0)), (1, .int a1), (2, .int a2)] dX6_fate_52 rfl rfl (by decide) rfl ?_
    refine gx_iload_n X 53 54 3 dX6_fate_53 rfl rfl rfl ?_
    refine gx_if (fun hc54_0 => ?_) (fun hc54_0 => ?_)
    · refine gx_tabIn X 54 84 (0) (off := 30) hc54_0 dX6_fate_54 (by decide) (by decide) (by decide) rfl ?_
      refine gx_aload_n X 84 85 0 dX6_fate_84 rfl rfl rfl ?_
      refine gx_getI X 85 88 ((34 + a1.toNatClampNeg)) (sX_wl h8) (sX_w h8) rfl fg_X6_131 dX6_fate_85 rfl ?_
      refine gx_iconst X 88 89 (4) dX6_fate_88 rfl ci_4 ?_
      refine gx_jn (fun (k : Int32 → Mm → Aa) => ∀ (x9 : Int32) (m10 : Mm), mm_G p l e rX6_fate s m args below meth c 4 D cA adr sX NX (mm_Qi D cA adr sX NX) m10 101 [] [.int x9] (k x9 m10)) ?_ (fun k_101 hk_101 => ?_)
      · intro x9 m10
        exact gx_iret X 101 hr dX6_fate_101
      refine gx_icmp_ne X 89 99 92 dX6_fate_89 rfl rfl ?_ ?_
      · refine gx_bipush X 99 101 (-4) dX6_fate_99 rfl cb_m4 ?_
        refine gx_sub [] rfl ?_
        exact hk_101 ((-4)) m7
      refine gx_aload_n X 92 93 0 dX6_fate_92 rfl rfl rfl ?_
      refine gx_getI X 93 96 ((34 + a1.toNatClampNeg)) (sX_wl h8) (sX_w h8) rfl fg_X6_136 dX6_fate_93 rfl ?_
      refine gx_goto X 96 101 dX6_fate_96 rfl ?_
      refine gx_sub [] rfl ?_
      exact hk_101 (m7 ((34 + a1.toNatClampNeg)) 14) m7
    refine gx_if (fun hc54_1 => ?_) (fun hc54_1 => ?_)
    · refine gx_tabIn X 54 102 (1) (off := 48) hc54_1 dX6_fate_54 (by decide) (by decide) (by decide) rfl ?_
      refine gx_aload_n X 102 103 0 dX6_fate_102 rfl rfl rfl ?_
      refine gx_getI X 103 106 ((34 + a1.toNatClampNeg)) (sX_wl h8) (sX_w h8) rfl fg_X6_139 dX6_fate_103 rfl ?_
      exact gx_iret X 106 hr dX6_fate_106
    refine gx_if (fun hc54_2 => ?_) (fun hc54_2 => ?_)
    · refine gx_tabIn X 54 107 (2) (off := 53) hc54_2 dX6_fate_54 (by decide) (by decide) (by decide) rfl ?_
      refine gx_aload_n X 107 108 0 dX6_fate_107 rfl rfl rfl ?_
      refine gx_getI X 108 111 ((34 + a1.toNatClampNeg)) (sX_wl h8) (sX_w h8) rfl fg_X6_142 dX6_fate_108 rfl ?_
      exact gx_iret X 111 hr dX6_fate_111
    refine gx_if (fun hc54_3 => ?_) (fun hc54_3 => ?_)
    · refine gx_tabIn X 54 112 (3) (off := 58) hc54_3 dX6_fate_54 (by decide) (by decide) (by decide) rfl ?_
      refine gx_aload_n X 112 113 0 dX6_fate_112 rfl rfl rfl ?_
      refine gx_getI X 113 116 ((34 + a1.toNatClampNeg)) (sX_wl h8) (sX_w h8) rfl fg_X6_145 dX6_fate_113 rfl ?_
      exact gx_iret X 116 hr dX6_fate_116
    refine gx_tabOut X 54 117 dX6_fate_54 (by have ghc54_0 := mm_neI 0 (by decide) hc54_0; have ghc54_1 := mm_neI 1 (by decide) hc54_1; have ghc54_2 := mm_neI 2 (by decide) hc54_2; have ghc54_3 := mm_neI 3 (by decide) hc54_3; omega) rfl ?_
    refine gx_aload_n X 117 118 0 dX6_fate_117 rfl rfl rfl ?_
    refine gx_getI X 118 121 ((34 + a1.toNatClampNeg)) (sX_wl h8) (sX_w h8) rfl fg_X6_148 dX6_fate_118 rfl ?_
    exact gx_iret X 121 hr dX6_fate_121
  refine gx_sub [] rfl ?_
  exact hk_20 m2
def fX6_at (a1 : Int32) (a2 : Int32) (μ : Mm) : Aa := mm_lt (fun (m1 : Mm) => some ((-1), m1)) (fun (k_20 : Mm → Aa) => if a1 < 0 then (k_20 μ) else (if 999 < a1 then (k_20 μ) else (if a2 < 0 then (k_20 μ) else (if a2 ≤ 5 then (mm_cl (fX0_load μ) (fun (x2 : Int32) (m3 : Mm) => mm_cl (fX0_run a1 m3) (fun (x4 : Int32) (m5 : Mm) => if a2 = 0 then (some (m5 30 3, m5)) else (if a2 = 1 then (mm_cl (fX0_onBridgeFrom 0 m5) (fun (x6 : Int32) (m7 : Mm) => some (x6, m7))) else (if a2 = 2 then (mm_cl (fX0_onBridgeFrom 1 m5) (fun (x8 : Int32) (m9 : Mm) => some (x8, m9))) else (if a2 = 3 then (mm_cl (fX0_whoIs 2 m5) (fun (x10 : Int32) (m11 : Mm) => some (x10, m11))) else (if a2 = 4 then (some (m5 30 4, m5)) else (mm_cl (fX0_whoIs 4 m5) (fun (x12 : Int32) (m13 : Mm) => some (x12, m13)))))))))) else (k_20 μ)))))
abbrev rX6_at : Room := { frames := 5, cells := 0, slots := 0, locals := 110 }
set_option maxRecDepth 100000 in
set_option maxHeartbeats 8000000 in
theorem tX6_at {l : Launch} {D : va_G} {cA : Nat → ClassId} {adr : Nat → Nat} {tt sK sV : Nat → Nat} {qv : Value} (hJ : mm_J adr NX) (a1 : Int32) (a2 : Int32) (μ : Mm) : mm_Mi l D cA adr sX NX (mm_SX (mm_A adr NX) tt sK sV qv) yX6_at cX6_at 3 (some .int) rX6_at [.ref (adr 0), .int a1, .int a2] μ (fX6_at a1 a2 μ) := by
  refine mm_entryi hJ mm_okX (by decide) (Nat.le_of_ble_eq_true rfl) ⟨rfl, rfl⟩ (fun p e s m below meth c X hr => ?_)
  generalize ([.ref (adr 0), .int a1, .int a2] : List Value).toArray = args at X ⊢
  refine gx_lv (lv' := [(0, .ref (adr 0)), (1, .int a1), (2, .int a2)]) rfl ?_
  unfold fX6_at
  refine gx_iload_n X 0 1 1 dX6_at_0 rfl rfl rfl ?_
  refine gx_jn (fun (k : Mm → Aa) => ∀ (m1 : Mm), mm_G p l e rX6_at s m args below meth c 3 D cA adr sX NX (mm_Qi D cA adr sX NX) m1 20 [] [] (k m1)) ?_ (fun k_20 hk_20 => ?_)
  · intro m1
    refine gx_iconst X 20 21 (-1) dX6_at_20 rfl ci_m1 ?_
    exact gx_iret X 21 hr dX6_at_21
  refine gx_if_lt X 1 20 4 dX6_at_1 rfl rfl ?_ ?_
  · refine gx_sub [] rfl ?_
    exact hk_20 μ
  refine gx_iload_n X 4 5 1 dX6_at_4 rfl rfl rfl ?_
  refine gx_sipush X 5 8 (999) dX6_at_5 rfl cs_999 ?_
  refine gx_icmp_gt X 8 20 11 dX6_at_8 rfl rfl ?_ ?_
  · refine gx_sub [] rfl ?_
    exact hk_20 μ
  refine gx_iload_n X 11 12 2 dX6_at_11 rfl rfl rfl ?_
  refine gx_if_lt X 12 20 15 dX6_at_12 rfl rfl ?_ ?_
  · refine gx_sub [] rfl ?_
    exact hk_20 μ
  refine gx_iload_n X 15 16 2 dX6_at_15 rfl rfl rfl ?_
  refine gx_iconst X 16 17 (5) dX6_at_16 rfl ci_5 ?_
  refine gx_icmp_le X 17 22 20 dX6_at_17 rfl rfl ?_ ?_
  · refine gx_aload_n X 22 23 0 dX6_at_22 rfl rfl rfl ?_
    refine gx_getR X 23 26 0 (by decide) rfl rfl fg_X6_33 dX6_at_23 rfl ?_
    refine gx_aload_n X 26 27 0 dX6_at_26 rfl rfl rfl ?_
    refine gx_getR X 27 30 0 (by decide) rfl rfl fg_X6_10 dX6_at_27 rfl ?_
    refine gx_callvV X 30 33 30 (rest := []) (As := [.ref (adr 1)]) (tX0_load hJ μ) (by decide) rfl rfl wc_X0_load wl_X6_120 wi_X0_load ws_X0_load wn_X0 rfl hd_X0_load ⟨Nat.le_of_ble_eq_true rfl, Nat.le_of_ble_eq_true rfl⟩ ⟨rfl, rfl⟩ rfl rfl (Nat.le_of_ble_eq_true rfl) dX6_at_30 rfl (fun x2 m3 => ?_)
    refine gx_aload_n X 33 34 0 dX6_at_33 rfl rfl rfl ?_
    refine gx_getR X 34 37 0 (by decide) rfl rfl fg_X6_33 dX6_at_34 rfl ?_
    refine gx_iload_n X 37 38 1 dX6_at_37 rfl rfl rfl ?_
    refine gx_callvV X 38 41 30 (rest := []) (As := [.int a1]) (tX0_run hJ a1 m3) (by decide) rfl rfl wc_X0_run wl_X6_124 wi_X0_run ws_X0_run wn_X0 rfl hd_X0_run ⟨Nat.le_of_ble_eq_true rfl, Nat.le_of_ble_eq_true rfl⟩ ⟨rfl, rfl⟩ rfl rfl (Nat.le_of_ble_eq_true rfl) dX6_at_38 rfl (fun x4 m5 => ?_)
    refine gx_iload_n X 41 42 2 dX6_at_41 rfl rfl rfl ?_
    refine gx_if (fun hc42_0 => ?_) (fun hc42_0 => ?_)
    · refine gx_tabIn X 42 76 (0) (off := 34) hc42_0 dX6_at_42 (by decide) (by decide) (by decide) rfl ?_
      refine gx_aload_n X 76 77 0 dX6_at_76 rfl rfl rfl ?_
      refine gx_getR X 77 80 0 (by decide) rfl rfl fg_X6_33 dX6_at_77 rfl ?_
      refine gx_getI X 80 83 30 (by decide) rfl rfl fg_X6_151 dX6_at_80 rfl ?_
      exact gx_iret X 83 hr dX6_at_83
    refine gx_if (fun hc42_1 => ?_) (fun hc42_1 => ?_)
    · refine gx_tabIn X 42 84 (1) (off := 42) hc42_1 dX6_at_42 (by decide) (by decide) (by decide) rfl ?_
      refine gx_aload_n X 84 85 0 dX6_at_84 rfl rfl rfl ?_
      refine gx_getR X 85 88 0 (by decide) rfl rfl fg_X6_33 dX6_at_85 rfl ?_
      refine gx_iconst X 88 89 (0) dX6_at_88 rfl ci_0 ?_
      refine gx_calliV X 89 92 30 (rest := []) (As := [.int 0]) (tX0_onBridgeFrom hJ 0 m5) (by decide) rfl rfl wc_X0_onBridgeFrom wl_X6_154 wi_X0_onBridgeFrom ws_X0_onBridgeFrom wn_X0 rfl hd_X0_onBridgeFrom ⟨Nat.le_of_ble_eq_true rfl, Nat.le_of_ble_eq_true rfl⟩ ⟨rfl, rfl⟩ rfl rfl (Nat.le_of_ble_eq_true rfl) dX6_at_89 rfl (fun x6 m7 => ?_)
      exact gx_iret X 92 hr dX6_at_92
    refine gx_if (fun hc42_2 => ?_) (fun hc42_2 => ?_)
    · refine gx_tabIn X 42 93 (2) (off := 51) hc42_2 dX6_at_42 (by decide) (by decide) (by decide) rfl ?_
      refine gx_aload_n X 93 94 0 dX6_at_93 rfl rfl rfl ?_
      refine gx_getR X 94 97 0 (by decide) rfl rfl fg_X6_33 dX6_at_94 rfl ?_
      refine gx_iconst X 97 98 (1) dX6_at_97 rfl ci_1 ?_
      refine gx_calliV X 98 101 30 (rest := []) (As := [.int 1]) (tX0_onBridgeFrom hJ 1 m5) (by decide) rfl rfl wc_X0_onBridgeFrom wl_X6_154 wi_X0_onBridgeFrom ws_X0_onBridgeFrom wn_X0 rfl hd_X0_onBridgeFrom ⟨Nat.le_of_ble_eq_true rfl, Nat.le_of_ble_eq_true rfl⟩ ⟨rfl, rfl⟩ rfl rfl (Nat.le_of_ble_eq_true rfl) dX6_at_98 rfl (fun x8 m9 => ?_)
      exact gx_iret X 101 hr dX6_at_101
    refine gx_if (fun hc42_3 => ?_) (fun hc42_3 => ?_)
    · refine gx_tabIn X 42 102 (3) (off := 60) hc42_3 dX6_at_42 (by decide) (by decide) (by decide) rfl ?_
      refine gx_aload_n X 102 103 0 dX6_at_102 rfl rfl rfl ?_
      refine gx_getR X 103 106 0 (by decide) rfl rfl fg_X6_33 dX6_at_103 rfl ?_
      refine gx_iconst X 106 107 (2) dX6_at_106 rfl ci_2 ?_
      refine gx_calliV X 107 110 30 (rest := []) (As := [.int 2]) (tX0_whoIs hJ 2 m5) (by decide) rfl rfl wc_X0_whoIs wl_X6_157 wi_X0_whoIs ws_X0_whoIs wn_X0 rfl hd_X0_whoIs ⟨Nat.le_of_ble_eq_true rfl, Nat.le_of_ble_eq_true rfl⟩ ⟨rfl, rfl⟩ rfl rfl (Nat.le_of_ble_eq_true rfl) dX6_at_107 rfl (fun x10 m11 => ?_)
      exact gx_iret X 110 hr dX6_at_110
    refine gx_if (fun hc42_4 => ?_) (fun hc42_4 => ?_)
    · refine gx_tabIn X 42 111 (4) (off := 69) hc42_4 dX6_at_42 (by decide) (by decide) (by decide) rfl ?_
      refine gx_aload_n X 111 112 0 dX6_at_111 rfl rfl rfl ?_
      refine gx_getR X 112 115 0 (by decide) rfl rfl fg_X6_33 dX6_at_112 rfl ?_
      refine gx_getI X 115 118 30 (by decide) rfl rfl fg_X6_160 dX6_at_115 rfl ?_
      exact gx_iret X 118 hr dX6_at_118
    refine gx_tabOut X 42 119 dX6_at_42 (by have ghc42_0 := mm_neI 0 (by decide) hc42_0; have ghc42_1 := mm_neI 1 (by decide) hc42_1; have ghc42_2 := mm_neI 2 (by decide) hc42_2; have ghc42_3 := mm_neI 3 (by decide) hc42_3; have ghc42_4 := mm_neI 4 (by decide) hc42_4; omega) rfl ?_
    refine gx_aload_n X 119 120 0 dX6_at_119 rfl rfl rfl ?_
    refine gx_getR X 120 123 0 (by decide) rfl rfl fg_X6_33 dX6_at_120 rfl ?_
    refine gx_iconst X 123 124 (4) dX6_at_123 rfl ci_4 ?_
    refine gx_calliV X 124 127 30 (rest := []) (As := [.int 4]) (tX0_whoIs hJ 4 m5) (by decide) rfl rfl wc_X0_whoIs wl_X6_157 wi_X0_whoIs ws_X0_whoIs wn_X0 rfl hd_X0_whoIs ⟨Nat.le_of_ble_eq_true rfl, Nat.le_of_ble_eq_true rfl⟩ ⟨rfl, rfl⟩ rfl rfl (Nat.le_of_ble_eq_true rfl) dX6_at_124 rfl (fun x12 m13 => ?_)
    exact gx_iret X 127 hr dX6_at_127
  refine gx_sub [] rfl ?_
  exact hk_20 μ
def fX6_gone (a1 : Int32) (a2 : Int32) (μ : Mm) : Aa := mm_cl (fX3_has a1 μ) (fun (x1 : Int32) (m2 : Mm) => mm_lt (fun (m3 : Mm) => some ((-1), m3)) (fun (k_22 : Mm → Aa) => if x1 = 0 then (k_22 m2) else (if a2 < 0 then (k_22 m2) else (if a2 ≤ 999 then (mm_cl (fX0_load m2) (fun (x4 : Int32) (m5 : Mm) => mm_cl (fX0_run a2 m5) (fun (x6 : Int32) (m7 : Mm) => mm_ck a1 10 (mm_cl (fX5_isOnBridge ((34 + a1.toNatClampNeg)) m7) (fun (x9 : Int32) (m10 : Mm) => mm_lt (fun (x11 : Int32) (m12 : Mm) => some (x11, m12)) (fun (k_69 : Int32 → Mm → Aa) => if x9 = 0 then (k_69 ((-4)) m10) else (k_69 (m10 ((34 + a1.toNatClampNeg)) 12) m10))))))) else (k_22 m2)))))
abbrev rX6_gone : Room := { frames := 5, cells := 0, slots := 0, locals := 110 }
set_option maxRecDepth 100000 in
set_option maxHeartbeats 8000000 in
theorem tX6_gone {l : Launch} {D : va_G} {cA : Nat → ClassId} {adr : Nat → Nat} {tt sK sV : Nat → Nat} {qv : Value} (hJ : mm_J adr NX) (a1 : Int32) (a2 : Int32) (μ : Mm) : mm_Mi l D cA adr sX NX (mm_SX (mm_A adr NX) tt sK sV qv) yX6_gone cX6_gone 4 (some .int) rX6_gone [.ref (adr 0), .int a1, .int a2] μ (fX6_gone a1 a2 μ) := by
  refine mm_entryi hJ mm_okX (by decide) (Nat.le_of_ble_eq_true rfl) ⟨rfl, rfl⟩ (fun p e s m below meth c X hr => ?_)
  generalize ([.ref (adr 0), .int a1, .int a2] : List Value).toArray = args at X ⊢
  refine gx_lv (lv' := [(0, .ref (adr 0)), (1, .int a1), (2, .int a2)]) rfl ?_
  unfold fX6_gone
  refine gx_aload_n X 0 1 0 dX6_gone_0 rfl rfl rfl ?_
  refine gx_getR X 1 4 0 (by decide) rfl rfl fg_X6_10 dX6_gone_1 rfl ?_
  refine gx_iload_n X 4 5 1 dX6_gone_4 rfl rfl rfl ?_
  refine gx_calliV X 5 8 1 (rest := []) (As := [.int a1]) (tX3_has hJ a1 μ) (by decide) rfl rfl wc_X3_has wl_X6_83 wi_X3_has ws_X3_has wn_X3 rfl hd_X3_has ⟨Nat.le_of_ble_eq_true rfl, Nat.le_of_ble_eq_true rfl⟩ ⟨rfl, rfl⟩ rfl rfl (Nat.le_of_ble_eq_true rfl) dX6_gone_5 rfl (fun x1 m2 => ?_)
  refine gx_jn (fun (k : Mm → Aa) => ∀ (m3 : Mm), mm_G p l e rX6_gone s m args below meth c 4 D cA adr sX NX (mm_Qi D cA adr sX NX) m3 22 [] [] (k m3)) ?_ (fun k_22 hk_22 => ?_)
  · intro m3
    refine gx_iconst X 22 23 (-1) dX6_gone_22 rfl ci_m1 ?_
    exact gx_iret X 23 hr dX6_gone_23
  refine gx_if_eq X 8 22 11 dX6_gone_8 rfl rfl ?_ ?_
  · refine gx_sub [] rfl ?_
    exact hk_22 m2
  refine gx_iload_n X 11 12 2 dX6_gone_11 rfl rfl rfl ?_
  refine gx_if_lt X 12 22 15 dX6_gone_12 rfl rfl ?_ ?_
  · refine gx_sub [] rfl ?_
    exact hk_22 m2
  refine gx_iload_n X 15 16 2 dX6_gone_15 rfl rfl rfl ?_
  refine gx_sipush X 16 19 (999) dX6_gone_16 rfl cs_999 ?_
  refine gx_icmp_le X 19 24 22 dX6_gone_19 rfl rfl ?_ ?_
  · refine gx_aload_n X 24 25 0 dX6_gone_24 rfl rfl rfl ?_
    refine gx_getR X 25 28 0 (by decide) rfl rfl fg_X6_33 dX6_gone_25 rfl ?_
    refine gx_aload_n X 28 29 0 dX6_gone_28 rfl rfl rfl ?_
    refine gx_getR X 29 32 0 (by decide) rfl rfl fg_X6_10 dX6_gone_29 rfl ?_
    refine gx_callvV X 32 35 30 (rest := []) (As := [.ref (adr 1)]) (tX0_load hJ m2) (by decide) rfl rfl wc_X0_load wl_X6_120 wi_X0_load ws_X0_load wn_X0 rfl hd_X0_load ⟨Nat.le_of_ble_eq_true rfl, Nat.le_of_ble_eq_true rfl⟩ ⟨rfl, rfl⟩ rfl rfl (Nat.le_of_ble_eq_true rfl) dX6_gone_32 rfl (fun x4 m5 => ?_)
    refine gx_aload_n X 35 36 0 dX6_gone_35 rfl rfl rfl ?_
    refine gx_getR X 36 39 0 (by decide) rfl rfl fg_X6_33 dX6_gone_36 rfl ?_
    refine gx_iload_n X 39 40 2 dX6_gone_39 rfl rfl rfl ?_
    refine gx_callvV X 40 43 30 (rest := []) (As := [.int a2]) (tX0_run hJ a2 m5) (by decide) rfl rfl wc_X0_run wl_X6_124 wi_X0_run ws_X0_run wn_X0 rfl hd_X0_run ⟨Nat.le_of_ble_eq_true rfl, Nat.le_of_ble_eq_true rfl⟩ ⟨rfl, rfl⟩ rfl rfl (Nat.le_of_ble_eq_true rfl) dX6_gone_40 rfl (fun x6 m7 => ?_)
    refine gx_aload_n X 43 44 0 dX6_gone_43 rfl rfl rfl ?_
    refine gx_getR X 44 47 0 (by decide) rfl rfl fg_X6_33 dX6_gone_44 rfl ?_
    refine gx_getR X 47 50 30 (by decide) rfl rfl fg_X6_127 dX6_gone_47 rfl ?_
    refine gx_iload_n X 50 51 1 dX6_gone_50 rfl rfl rfl ?_
    refine gx_aaload X 51 52 31 (by decide) rfl rfl rfl dX6_gone_51 rfl (fun h8 => ?_)
    refine gx_astore_n X 52 53 [(3, .ref (adr ((34 + a1.toNatClampNeg)))), (0, .ref (adr 0)), (1, .int a1), (2, .int a2)] dX6_gone_52 rfl rfl (by decide) rfl ?_
    refine gx_aload_n X 53 54 0 dX6_gone_53 rfl rfl rfl ?_
    refine gx_calliV X 54 57 ((34 + a1.toNatClampNeg)) (rest := []) (As := []) (tX5_isOnBridge hJ ((34 + a1.toNatClampNeg)) (sX_wl h8) (sX_w h8) m7) (sX_wl h8) (sX_w h8) rfl wc_X5_isOnBridge wl_X6_163 wi_X5_isOnBridge ws_X5_isOnBridge wn_X5 rfl hd_X5_isOnBridge ⟨Nat.le_of_ble_eq_true rfl, Nat.le_of_ble_eq_true rfl⟩ ⟨rfl, rfl⟩ rfl rfl (Nat.le_of_ble_eq_true rfl) dX6_gone_54 rfl (fun x9 m10 => ?_)
    refine gx_jn (fun (k : Int32 → Mm → Aa) => ∀ (x11 : Int32) (m12 : Mm), mm_G p l e rX6_gone s m args below meth c 4 D cA adr sX NX (mm_Qi D cA adr sX NX) m12 69 [] [.int x11] (k x11 m12)) ?_ (fun k_69 hk_69 => ?_)
    · intro x11 m12
      exact gx_iret X 69 hr dX6_gone_69
    refine gx_if_eq X 57 67 60 dX6_gone_57 rfl rfl ?_ ?_
    · refine gx_bipush X 67 69 (-4) dX6_gone_67 rfl cb_m4 ?_
      refine gx_sub [] rfl ?_
      exact hk_69 ((-4)) m10
    refine gx_aload_n X 60 61 0 dX6_gone_60 rfl rfl rfl ?_
    refine gx_getI X 61 64 ((34 + a1.toNatClampNeg)) (sX_wl h8) (sX_w h8) rfl fg_X6_167 dX6_gone_61 rfl ?_
    refine gx_goto X 64 69 dX6_gone_64 rfl ?_
    refine gx_sub [] rfl ?_
    exact hk_69 (m10 ((34 + a1.toNatClampNeg)) 12) m10
  refine gx_sub [] rfl ?_
  exact hk_22 m2
def fX6_all (a1 : Int32) (μ : Mm) : Aa := mm_lt (fun (m1 : Mm) => some ((-1), m1)) (fun (k_9 : Mm → Aa) => if a1 < 0 then (k_9 μ) else (if a1 ≤ 4 then (mm_cl (fX0_load μ) (fun (x2 : Int32) (m3 : Mm) => mm_cl (fX0_run 999 m3) (fun (x4 : Int32) (m5 : Mm) => if a1 = 0 then (some (m5 30 3, m5)) else (if a1 = 1 then (mm_cl (fX0_sumOfOver m5) (fun (x6 : Int32) (m7 : Mm) => some (x6, m7))) else (if a1 = 2 then (mm_cl (fX0_lastOver m5) (fun (x8 : Int32) (m9 : Mm) => some (x8, m9))) else (if a1 = 3 then (some (m5 30 5, m5)) else (mm_cl (fX0_sumOfFords m5) (fun (x10 : Int32) (m11 : Mm) => some (x10, m11))))))))) else (k_9 μ)))
abbrev rX6_all : Room := { frames := 5, cells := 0, slots := 0, locals := 110 }
set_option maxRecDepth 100000 in
set_option maxHeartbeats 8000000 in
theorem tX6_all {l : Launch} {D : va_G} {cA : Nat → ClassId} {adr : Nat → Nat} {tt sK sV : Nat → Nat} {qv : Value} (hJ : mm_J adr NX) (a1 : Int32) (μ : Mm) : mm_Mi l D cA adr sX NX (mm_SX (mm_A adr NX) tt sK sV qv) yX6_all cX6_all 2 (some .int) rX6_all [.ref (adr 0), .int a1] μ (fX6_all a1 μ) := by
  refine mm_entryi hJ mm_okX (by decide) (Nat.le_of_ble_eq_true rfl) ⟨rfl, rfl⟩ (fun p e s m below meth c X hr => ?_)
  generalize ([.ref (adr 0), .int a1] : List Value).toArray = args at X ⊢
  refine gx_lv (lv' := [(0, .ref (adr 0)), (1, .int a1)]) rfl ?_
  unfold fX6_all
  refine gx_iload_n X 0 1 1 dX6_all_0 rfl rfl rfl ?_
  refine gx_jn (fun (k : Mm → Aa) => ∀ (m1 : Mm), mm_G p l e rX6_all s m args below meth c 2 D cA adr sX NX (mm_Qi D cA adr sX NX) m1 9 [] [] (k m1)) ?_ (fun k_9 hk_9 => ?_)
  · intro m1
    refine gx_iconst X 9 10 (-1) dX6_all_9 rfl ci_m1 ?_
    exact gx_iret X 10 hr dX6_all_10
  refine gx_if_lt X 1 9 4 dX6_all_1 rfl rfl ?_ ?_
  · refine gx_sub [] rfl ?_
    exact hk_9 μ
  refine gx_iload_n X 4 5 1 dX6_all_4 rfl rfl rfl ?_
  refine gx_iconst X 5 6 (4) dX6_all_5 rfl ci_4 ?_
  refine gx_icmp_le X 6 11 9 dX6_all_6 rfl rfl ?_ ?_
  · refine gx_aload_n X 11 12 0 dX6_all_11 rfl rfl rfl ?_
    refine gx_getR X 12 15 0 (by decide) rfl rfl fg_X6_33 dX6_all_12 rfl ?_
    refine gx_aload_n X 15 16 0 dX6_all_15 rfl rfl rfl ?_
    refine gx_getR X 16 19 0 (by decide) rfl rfl fg_X6_10 dX6_all_16 rfl ?_
    refine gx_callvV X 19 22 30 (rest := []) (As := [.ref (adr 1)]) (tX0_load hJ μ) (by decide) rfl rfl wc_X0_load wl_X6_120 wi_X0_load ws_X0_load wn_X0 rfl hd_X0_load ⟨Nat.le_of_ble_eq_true rfl, Nat.le_of_ble_eq_true rfl⟩ ⟨rfl, rfl⟩ rfl rfl (Nat.le_of_ble_eq_true rfl) dX6_all_19 rfl (fun x2 m3 => ?_)
    refine gx_aload_n X 22 23 0 dX6_all_22 rfl rfl rfl ?_
    refine gx_getR X 23 26 0 (by decide) rfl rfl fg_X6_33 dX6_all_23 rfl ?_
    refine gx_sipush X 26 29 (999) dX6_all_26 rfl cs_999 ?_
    refine gx_callvV X 29 32 30 (rest := []) (As := [.int 999]) (tX0_run hJ 999 m3) (by decide) rfl rfl wc_X0_run wl_X6_124 wi_X0_run ws_X0_run wn_X0 rfl hd_X0_run ⟨Nat.le_of_ble_eq_true rfl, Nat.le_of_ble_eq_true rfl⟩ ⟨rfl, rfl⟩ rfl rfl (Nat.le_of_ble_eq_true rfl) dX6_all_29 rfl (fun x4 m5 => ?_)
    refine gx_iload_n X 32 33 1 dX6_all_32 rfl rfl rfl ?_
    refine gx_if (fun hc33_0 => ?_) (fun hc33_0 => ?_)
    · refine gx_tabIn X 33 64 (0) (off := 31) hc33_0 dX6_all_33 (by decide) (by decide) (by decide) rfl ?_
      refine gx_aload_n X 64 65 0 dX6_all_64 rfl rfl rfl ?_
      refine gx_getR X 65 68 0 (by decide) rfl rfl fg_X6_33 dX6_all_65 rfl ?_
      refine gx_getI X 68 71 30 (by decide) rfl rfl fg_X6_151 dX6_all_68 rfl ?_
      exact gx_iret X 71 hr dX6_all_71
    refine gx_if (fun hc33_1 => ?_) (fun hc33_1 => ?_)
    · refine gx_tabIn X 33 72 (1) (off := 39) hc33_1 dX6_all_33 (by decide) (by decide) (by decide) rfl ?_
      refine gx_aload_n X 72 73 0 dX6_all_72 rfl rfl rfl ?_
      refine gx_getR X 73 76 0 (by decide) rfl rfl fg_X6_33 dX6_all_73 rfl ?_
      refine gx_calliV X 76 79 30 (rest := []) (As := []) (tX0_sumOfOver hJ m5) (by decide) rfl rfl wc_X0_sumOfOver wl_X6_170 wi_X0_sumOfOver ws_X0_sumOfOver wn_X0 rfl hd_X0_sumOfOver ⟨Nat.le_of_ble_eq_true rfl, Nat.le_of_ble_eq_true rfl⟩ ⟨rfl, rfl⟩ rfl rfl (Nat.le_of_ble_eq_true rfl) dX6_all_76 rfl (fun x6 m7 => ?_)
      exact gx_iret X 79 hr dX6_all_79
    refine gx_if (fun hc33_2 => ?_) (fun hc33_2 => ?_)
    · refine gx_tabIn X 33 80 (2) (off := 47) hc33_2 dX6_all_33 (by decide) (by decide) (by decide) rfl ?_
      refine gx_aload_n X 80 81 0 dX6_all_80 rfl rfl rfl ?_
      refine gx_getR X 81 84 0 (by decide) rfl rfl fg_X6_33 dX6_all_81 rfl ?_
      refine gx_calliV X 84 87 30 (rest := []) (As := []) (tX0_lastOver hJ m5) (by decide) rfl rfl wc_X0_lastOver wl_X6_174 wi_X0_lastOver ws_X0_lastOver wn_X0 rfl hd_X0_lastOver ⟨Nat.le_of_ble_eq_true rfl, Nat.le_of_ble_eq_true rfl⟩ ⟨rfl, rfl⟩ rfl rfl (Nat.le_of_ble_eq_true rfl) dX6_all_84 rfl (fun x8 m9 => ?_)
      exact gx_iret X 87 hr dX6_all_87
    refine gx_if (fun hc33_3 => ?_) (fun hc33_3 => ?_)
    · refine gx_tabIn X 33 88 (3) (off := 55) hc33_3 dX6_all_33 (by decide) (by decide) (by decide) rfl ?_
      refine gx_aload_n X 88 89 0 dX6_all_88 rfl rfl rfl ?_
      refine gx_getR X 89 92 0 (by decide) rfl rfl fg_X6_33 dX6_all_89 rfl ?_
      refine gx_getI X 92 95 30 (by decide) rfl rfl fg_X6_177 dX6_all_92 rfl ?_
      exact gx_iret X 95 hr dX6_all_95
    refine gx_tabOut X 33 96 dX6_all_33 (by have ghc33_0 := mm_neI 0 (by decide) hc33_0; have ghc33_1 := mm_neI 1 (by decide) hc33_1; have ghc33_2 := mm_neI 2 (by decide) hc33_2; have ghc33_3 := mm_neI 3 (by decide) hc33_3; omega) rfl ?_
    refine gx_aload_n X 96 97 0 dX6_all_96 rfl rfl rfl ?_
    refine gx_getR X 97 100 0 (by decide) rfl rfl fg_X6_33 dX6_all_97 rfl ?_
    refine gx_calliV X 100 103 30 (rest := []) (As := []) (tX0_sumOfFords hJ m5) (by decide) rfl rfl wc_X0_sumOfFords wl_X6_180 wi_X0_sumOfFords ws_X0_sumOfFords wn_X0 rfl hd_X0_sumOfFords ⟨Nat.le_of_ble_eq_true rfl, Nat.le_of_ble_eq_true rfl⟩ ⟨rfl, rfl⟩ rfl rfl (Nat.le_of_ble_eq_true rfl) dX6_all_100 rfl (fun x10 m11 => ?_)
    exact gx_iret X 103 hr dX6_all_103
  refine gx_sub [] rfl ?_
  exact hk_9 μ
def fX6_soonest (a1 : Int32) (a2 : Int32) (μ : Mm) : Aa := mm_cl (fX1_choose a1 (μ 1 1) μ) (fun (x1 : Int32) (m2 : Mm) => mm_lt (fun (m3 : Mm) => some ((-1), m3)) (fun (k_35 : Mm → Aa) => if x1 = 0 then (k_35 m2) else (if a2 < ((-2)) then (k_35 m2) else (if a2 < (m2 44 0) then (mm_cl (fX1_findCompanies m2) (fun (x4 : Int32) (m5 : Mm) => mm_lt (fun (x6 : Int32) (m7 : Mm) => some (x6, m7)) (fun (k_76 : Int32 → Mm → Aa) => if 0 ≤ a2 then (mm_ck a2 6 (k_76 (m5 45 a2.toNatClampNeg) m5)) else (mm_cl (fX1_found a2 m5) (fun (x8 : Int32) (m9 : Mm) => k_76 x8 m9))))) else (k_35 m2)))))
abbrev rX6_soonest : Room := { frames := 7, cells := 0, slots := 0, locals := 157 }
set_option maxRecDepth 100000 in
set_option maxHeartbeats 8000000 in
theorem tX6_soonest {l : Launch} {D : va_G} {cA : Nat → ClassId} {adr : Nat → Nat} {tt sK sV : Nat → Nat} {qv : Value} (hJ : mm_J adr NX) (a1 : Int32) (a2 : Int32) (μ : Mm) : mm_Mi l D cA adr sX NX (mm_SX (mm_A adr NX) tt sK sV qv) yX6_soonest cX6_soonest 3 (some .int) rX6_soonest [.ref (adr 0), .int a1, .int a2] μ (fX6_soonest a1 a2 μ) := by
  refine mm_entryi hJ mm_okX (by decide) (Nat.le_of_ble_eq_true rfl) ⟨rfl, rfl⟩ (fun p e s m below meth c X hr => ?_)
  generalize ([.ref (adr 0), .int a1, .int a2] : List Value).toArray = args at X ⊢
  refine gx_lv (lv' := [(0, .ref (adr 0)), (1, .int a1), (2, .int a2)]) rfl ?_
  unfold fX6_soonest
  refine gx_aload_n X 0 1 0 dX6_soonest_0 rfl rfl rfl ?_
  refine gx_getR X 1 4 0 (by decide) rfl rfl fg_X6_40 dX6_soonest_1 rfl ?_
  refine gx_iload_n X 4 5 1 dX6_soonest_4 rfl rfl rfl ?_
  refine gx_aload_n X 5 6 0 dX6_soonest_5 rfl rfl rfl ?_
  refine gx_getR X 6 9 0 (by decide) rfl rfl fg_X6_10 dX6_soonest_6 rfl ?_
  refine gx_getI X 9 12 1 (by decide) rfl rfl fg_X6_80 dX6_soonest_9 rfl ?_
  refine gx_calliV X 12 15 44 (rest := []) (As := [.int a1, .int (μ 1 1)]) (tX1_choose hJ a1 (μ 1 1) μ) (by decide) rfl rfl wc_X1_choose wl_X6_183 wi_X1_choose ws_X1_choose wn_X1 rfl hd_X1_choose ⟨Nat.le_of_ble_eq_true rfl, Nat.le_of_ble_eq_true rfl⟩ ⟨rfl, rfl⟩ rfl rfl (Nat.le_of_ble_eq_true rfl) dX6_soonest_12 rfl (fun x1 m2 => ?_)
  refine gx_jn (fun (k : Mm → Aa) => ∀ (m3 : Mm), mm_G p l e rX6_soonest s m args below meth c 3 D cA adr sX NX (mm_Qi D cA adr sX NX) m3 35 [] [] (k m3)) ?_ (fun k_35 hk_35 => ?_)
  · intro m3
    refine gx_iconst X 35 36 (-1) dX6_soonest_35 rfl ci_m1 ?_
    exact gx_iret X 36 hr dX6_soonest_36
  refine gx_if_eq X 15 35 18 dX6_soonest_15 rfl rfl ?_ ?_
  · refine gx_sub [] rfl ?_
    exact hk_35 m2
  refine gx_iload_n X 18 19 2 dX6_soonest_18 rfl rfl rfl ?_
  refine gx_bipush X 19 21 (-2) dX6_soonest_19 rfl cb_m2 ?_
  refine gx_icmp_lt X 21 35 24 dX6_soonest_21 rfl rfl ?_ ?_
  · refine gx_sub [] rfl ?_
    exact hk_35 m2
  refine gx_iload_n X 24 25 2 dX6_soonest_24 rfl rfl rfl ?_
  refine gx_aload_n X 25 26 0 dX6_soonest_25 rfl rfl rfl ?_
  refine gx_getR X 26 29 0 (by decide) rfl rfl fg_X6_40 dX6_soonest_26 rfl ?_
  refine gx_getI X 29 32 44 (by decide) rfl rfl fg_X6_186 dX6_soonest_29 rfl ?_
  refine gx_icmp_lt X 32 37 35 dX6_soonest_32 rfl rfl ?_ ?_
  · refine gx_aload_n X 37 38 0 dX6_soonest_37 rfl rfl rfl ?_
    refine gx_getR X 38 41 0 (by decide) rfl rfl fg_X6_40 dX6_soonest_38 rfl ?_
    refine gx_aload_n X 41 42 0 dX6_soonest_41 rfl rfl rfl ?_
    refine gx_getR X 42 45 0 (by decide) rfl rfl fg_X6_33 dX6_soonest_42 rfl ?_
    refine gx_aload_n X 45 46 0 dX6_soonest_45 rfl rfl rfl ?_
    refine gx_getR X 46 49 0 (by decide) rfl rfl fg_X6_10 dX6_soonest_46 rfl ?_
    refine gx_callvV X 49 52 44 (rest := []) (As := [.ref (adr 30), .ref (adr 1)]) (tX1_findCompanies hJ m2) (by decide) rfl rfl wc_X1_findCompanies wl_X6_187 wi_X1_findCompanies ws_X1_findCompanies wn_X1 rfl hd_X1_findCompanies ⟨Nat.le_of_ble_eq_true rfl, Nat.le_of_ble_eq_true rfl⟩ ⟨rfl, rfl⟩ rfl rfl (Nat.le_of_ble_eq_true rfl) dX6_soonest_49 rfl (fun x4 m5 => ?_)
    refine gx_iload_n X 52 53 2 dX6_soonest_52 rfl rfl rfl ?_
    refine gx_jn (fun (k : Int32 → Mm → Aa) => ∀ (x6 : Int32) (m7 : Mm), mm_G p l e rX6_soonest s m args below meth c 3 D cA adr sX NX (mm_Qi D cA adr sX NX) m7 76 [] [.int x6] (k x6 m7)) ?_ (fun k_76 hk_76 => ?_)
    · intro x6 m7
      exact gx_iret X 76 hr dX6_soonest_76
    refine gx_if_ge X 53 67 56 dX6_soonest_53 rfl rfl ?_ ?_
    · refine gx_aload_n X 67 68 0 dX6_soonest_67 rfl rfl rfl ?_
      refine gx_getR X 68 71 0 (by decide) rfl rfl fg_X6_40 dX6_soonest_68 rfl ?_
      refine gx_getR X 71 74 44 (by decide) rfl rfl fg_X6_194 dX6_soonest_71 rfl ?_
      refine gx_iload_n X 74 75 2 dX6_soonest_74 rfl rfl rfl ?_
      refine gx_iaload X 75 76 45 (by decide) rfl dX6_soonest_75 rfl ?_
      refine gx_sub [] rfl ?_
      exact hk_76 (m5 45 a2.toNatClampNeg) m5
    refine gx_aload_n X 56 57 0 dX6_soonest_56 rfl rfl rfl ?_
    refine gx_getR X 57 60 0 (by decide) rfl rfl fg_X6_40 dX6_soonest_57 rfl ?_
    refine gx_iload_n X 60 61 2 dX6_soonest_60 rfl rfl rfl ?_
    refine gx_calliV X 61 64 44 (rest := []) (As := [.int a2]) (tX1_found hJ a2 m5) (by decide) rfl rfl wc_X1_found wl_X6_191 wi_X1_found ws_X1_found wn_X1 rfl hd_X1_found ⟨Nat.le_of_ble_eq_true rfl, Nat.le_of_ble_eq_true rfl⟩ ⟨rfl, rfl⟩ rfl rfl (Nat.le_of_ble_eq_true rfl) dX6_soonest_61 rfl (fun x8 m9 => ?_)
    refine gx_goto X 64 76 dX6_soonest_64 rfl ?_
    refine gx_sub [] rfl ?_
    exact hk_76 x8 m9
  refine gx_sub [] rfl ?_
  exact hk_35 m2
def fX6_order (a1 : Int32) (a2 : Int32) (a3 : Int32) (μ : Mm) : Aa := mm_cl (fX1_choose a1 (μ 1 1) μ) (fun (x1 : Int32) (m2 : Mm) => mm_lt (fun (m3 : Mm) => some ((-1), m3)) (fun (k_45 : Mm → Aa) => if x1 = 0 then (k_45 m2) else (if a2 < 0 then (k_45 m2) else (if 60 < a2 then (k_45 m2) else (if a3 < ((-2)) then (k_45 m2) else (if a3 < (m2 44 0) then (mm_cl (fX1_findRow a2 m2) (fun (x4 : Int32) (m5 : Mm) => mm_lt (fun (x6 : Int32) (m7 : Mm) => some (x6, m7)) (fun (k_86 : Int32 → Mm → Aa) => if 0 ≤ a3 then (mm_cl (fX1_bestPerson a3 m5) (fun (x8 : Int32) (m9 : Mm) => k_86 x8 m9)) else (mm_cl (fX1_found a3 m5) (fun (x10 : Int32) (m11 : Mm) => k_86 x10 m11))))) else (k_45 m2)))))))
abbrev rX6_order : Room := { frames := 7, cells := 0, slots := 0, locals := 158 }
set_option maxRecDepth 100000 in
set_option maxHeartbeats 8000000 in
theorem tX6_order {l : Launch} {D : va_G} {cA : Nat → ClassId} {adr : Nat → Nat} {tt sK sV : Nat → Nat} {qv : Value} (hJ : mm_J adr NX) (a1 : Int32) (a2 : Int32) (a3 : Int32) (μ : Mm) : mm_Mi l D cA adr sX NX (mm_SX (mm_A adr NX) tt sK sV qv) yX6_order cX6_order 4 (some .int) rX6_order [.ref (adr 0), .int a1, .int a2, .int a3] μ (fX6_order a1 a2 a3 μ) := by
  refine mm_entryi hJ mm_okX (by decide) (Nat.le_of_ble_eq_true rfl) ⟨rfl, rfl⟩ (fun p e s m below meth c X hr => ?_)
  generalize ([.ref (adr 0), .int a1, .int a2, .int a3] : List Value).toArray = args at X ⊢
  refine gx_lv (lv' := [(0, .ref (adr 0)), (1, .int a1), (2, .int a2), (3, .int a3)]) rfl ?_
  unfold fX6_order
  refine gx_aload_n X 0 1 0 dX6_order_0 rfl rfl rfl ?_
  refine gx_getR X 1 4 0 (by decide) rfl rfl fg_X6_40 dX6_order_1 rfl ?_
  refine gx_iload_n X 4 5 1 dX6_order_4 rfl rfl rfl ?_
  refine gx_aload_n X 5 6 0 dX6_order_5 rfl rfl rfl ?_
  refine gx_getR X 6 9 0 (by decide) rfl rfl fg_X6_10 dX6_order_6 rfl ?_
  refine gx_getI X 9 12 1 (by decide) rfl rfl fg_X6_80 dX6_order_9 rfl ?_
  refine gx_calliV X 12 15 44 (rest := []) (As := [.int a1, .int (μ 1 1)]) (tX1_choose hJ a1 (μ 1 1) μ) (by decide) rfl rfl wc_X1_choose wl_X6_183 wi_X1_choose ws_X1_choose wn_X1 rfl hd_X1_choose ⟨Nat.le_of_ble_eq_true rfl, Nat.le_of_ble_eq_true rfl⟩ ⟨rfl, rfl⟩ rfl rfl (Nat.le_of_ble_eq_true rfl) dX6_order_12 rfl (fun x1 m2 => ?_)
  refine gx_jn (fun (k : Mm → Aa) => ∀ (m3 : Mm), mm_G p l e rX6_order s m args below meth c 4 D cA adr sX NX (mm_Qi D cA adr sX NX) m3 45 [] [] (k m3)) ?_ (fun k_45 hk_45 => ?_)
  · intro m3
    refine gx_iconst X 45 46 (-1) dX6_order_45 rfl ci_m1 ?_
    exact gx_iret X 46 hr dX6_order_46
  refine gx_if_eq X 15 45 18 dX6_order_15 rfl rfl ?_ ?_
  · refine gx_sub [] rfl ?_
    exact hk_45 m2
  refine gx_iload_n X 18 19 2 dX6_order_18 rfl rfl rfl ?_
  refine gx_if_lt X 19 45 22 dX6_order_19 rfl rfl ?_ ?_
  · refine gx_sub [] rfl ?_
    exact hk_45 m2
  refine gx_iload_n X 22 23 2 dX6_order_22 rfl rfl rfl ?_
  refine gx_bipush X 23 25 (60) dX6_order_23 rfl cb_60 ?_
  refine gx_icmp_gt X 25 45 28 dX6_order_25 rfl rfl ?_ ?_
  · refine gx_sub [] rfl ?_
    exact hk_45 m2
  refine gx_iload_n X 28 29 3 dX6_order_28 rfl rfl rfl ?_
  refine gx_bipush X 29 31 (-2) dX6_order_29 rfl cb_m2 ?_
  refine gx_icmp_lt X 31 45 34 dX6_order_31 rfl rfl ?_ ?_
  · refine gx_sub [] rfl ?_
    exact hk_45 m2
  refine gx_iload_n X 34 35 3 dX6_order_34 rfl rfl rfl ?_
  refine gx_aload_n X 35 36 0 dX6_order_35 rfl rfl rfl ?_
  refine gx_getR X 36 39 0 (by decide) rfl rfl fg_X6_40 dX6_order_36 rfl ?_
  refine gx_getI X 39 42 44 (by decide) rfl rfl fg_X6_186 dX6_order_39 rfl ?_
  refine gx_icmp_lt X 42 47 45 dX6_order_42 rfl rfl ?_ ?_
  · refine gx_aload_n X 47 48 0 dX6_order_47 rfl rfl rfl ?_
    refine gx_getR X 48 51 0 (by decide) rfl rfl fg_X6_40 dX6_order_48 rfl ?_
    refine gx_aload_n X 51 52 0 dX6_order_51 rfl rfl rfl ?_
    refine gx_getR X 52 55 0 (by decide) rfl rfl fg_X6_33 dX6_order_52 rfl ?_
    refine gx_aload_n X 55 56 0 dX6_order_55 rfl rfl rfl ?_
    refine gx_getR X 56 59 0 (by decide) rfl rfl fg_X6_10 dX6_order_56 rfl ?_
    refine gx_iload_n X 59 60 2 dX6_order_59 rfl rfl rfl ?_
    refine gx_callvV X 60 63 44 (rest := []) (As := [.ref (adr 30), .ref (adr 1), .int a2]) (tX1_findRow hJ a2 m2) (by decide) rfl rfl wc_X1_findRow wl_X6_197 wi_X1_findRow ws_X1_findRow wn_X1 rfl hd_X1_findRow ⟨Nat.le_of_ble_eq_true rfl, Nat.le_of_ble_eq_true rfl⟩ ⟨rfl, rfl⟩ rfl rfl (Nat.le_of_ble_eq_true rfl) dX6_order_60 rfl (fun x4 m5 => ?_)
    refine gx_iload_n X 63 64 3 dX6_order_63 rfl rfl rfl ?_
    refine gx_jn (fun (k : Int32 → Mm → Aa) => ∀ (x6 : Int32) (m7 : Mm), mm_G p l e rX6_order s m args below meth c 4 D cA adr sX NX (mm_Qi D cA adr sX NX) m7 86 [] [.int x6] (k x6 m7)) ?_ (fun k_86 hk_86 => ?_)
    · intro x6 m7
      exact gx_iret X 86 hr dX6_order_86
    refine gx_if_ge X 64 78 67 dX6_order_64 rfl rfl ?_ ?_
    · refine gx_aload_n X 78 79 0 dX6_order_78 rfl rfl rfl ?_
      refine gx_getR X 79 82 0 (by decide) rfl rfl fg_X6_40 dX6_order_79 rfl ?_
      refine gx_iload_n X 82 83 3 dX6_order_82 rfl rfl rfl ?_
      refine gx_calliV X 83 86 44 (rest := []) (As := [.int a3]) (tX1_bestPerson hJ a3 m5) (by decide) rfl rfl wc_X1_bestPerson wl_X6_201 wi_X1_bestPerson ws_X1_bestPerson wn_X1 rfl hd_X1_bestPerson ⟨Nat.le_of_ble_eq_true rfl, Nat.le_of_ble_eq_true rfl⟩ ⟨rfl, rfl⟩ rfl rfl (Nat.le_of_ble_eq_true rfl) dX6_order_83 rfl (fun x8 m9 => ?_)
      refine gx_sub [] rfl ?_
      exact hk_86 x8 m9
    refine gx_aload_n X 67 68 0 dX6_order_67 rfl rfl rfl ?_
    refine gx_getR X 68 71 0 (by decide) rfl rfl fg_X6_40 dX6_order_68 rfl ?_
    refine gx_iload_n X 71 72 3 dX6_order_71 rfl rfl rfl ?_
    refine gx_calliV X 72 75 44 (rest := []) (As := [.int a3]) (tX1_found hJ a3 m5) (by decide) rfl rfl wc_X1_found wl_X6_191 wi_X1_found ws_X1_found wn_X1 rfl hd_X1_found ⟨Nat.le_of_ble_eq_true rfl, Nat.le_of_ble_eq_true rfl⟩ ⟨rfl, rfl⟩ rfl rfl (Nat.le_of_ble_eq_true rfl) dX6_order_72 rfl (fun x10 m11 => ?_)
    refine gx_goto X 75 86 dX6_order_75 rfl ?_
    refine gx_sub [] rfl ?_
    exact hk_86 x10 m11
  refine gx_sub [] rfl ?_
  exact hk_45 m2
def fX6_worth (a1 : Int32) (a2 : Int32) (μ : Mm) : Aa := mm_cl (fX3_has a1 μ) (fun (x1 : Int32) (m2 : Mm) => mm_lt (fun (m3 : Mm) => some ((-100001), m3)) (fun (k_27 : Mm → Aa) => if x1 = 0 then (k_27 m2) else (mm_cl (fX3_has a2 m2) (fun (x4 : Int32) (m5 : Mm) => if x4 = 0 then (k_27 m5) else (if a1 = a2 then (k_27 m5) else (mm_cl (fX0_load m5) (fun (x6 : Int32) (m7 : Mm) => mm_cl (fX0_run 999 m7) (fun (x8 : Int32) (m9 : Mm) => mm_cl (fX0_sumOfOver m9) (fun (x10 : Int32) (m11 : Mm) => mm_lt x10 (fun (x12 : Int32) => mm_cl (fX6_sumIfHeld a1 a2 m11) (fun (x13 : Int32) (m14 : Mm) => some (x12 - x13, m14))))))))))))
abbrev rX6_worth : Room := { frames := 6, cells := 0, slots := 0, locals := 132 }
set_option maxRecDepth 100000 in
set_option maxHeartbeats 8000000 in
theorem tX6_worth {l : Launch} {D : va_G} {cA : Nat → ClassId} {adr : Nat → Nat} {tt sK sV : Nat → Nat} {qv : Value} (hJ : mm_J adr NX) (a1 : Int32) (a2 : Int32) (μ : Mm) : mm_Mi l D cA adr sX NX (mm_SX (mm_A adr NX) tt sK sV qv) yX6_worth cX6_worth 4 (some .int) rX6_worth [.ref (adr 0), .int a1, .int a2] μ (fX6_worth a1 a2 μ) := by
  refine mm_entryi hJ mm_okX (by decide) (Nat.le_of_ble_eq_true rfl) ⟨rfl, rfl⟩ (fun p e s m below meth c X hr => ?_)
  generalize ([.ref (adr 0), .int a1, .int a2] : List Value).toArray = args at X ⊢
  refine gx_lv (lv' := [(0, .ref (adr 0)), (1, .int a1), (2, .int a2)]) rfl ?_
  unfold fX6_worth
  refine gx_aload_n X 0 1 0 dX6_worth_0 rfl rfl rfl ?_
  refine gx_getR X 1 4 0 (by decide) rfl rfl fg_X6_10 dX6_worth_1 rfl ?_
  refine gx_iload_n X 4 5 1 dX6_worth_4 rfl rfl rfl ?_
  refine gx_calliV X 5 8 1 (rest := []) (As := [.int a1]) (tX3_has hJ a1 μ) (by decide) rfl rfl wc_X3_has wl_X6_83 wi_X3_has ws_X3_has wn_X3 rfl hd_X3_has ⟨Nat.le_of_ble_eq_true rfl, Nat.le_of_ble_eq_true rfl⟩ ⟨rfl, rfl⟩ rfl rfl (Nat.le_of_ble_eq_true rfl) dX6_worth_5 rfl (fun x1 m2 => ?_)
  refine gx_jn (fun (k : Mm → Aa) => ∀ (m3 : Mm), mm_G p l e rX6_worth s m args below meth c 4 D cA adr sX NX (mm_Qi D cA adr sX NX) m3 27 [] [] (k m3)) ?_ (fun k_27 hk_27 => ?_)
  · intro m3
    refine gx_ldc X 27 29 wk_X6_204 dX6_worth_27 rfl ?_
    exact gx_iret X 29 hr dX6_worth_29
  refine gx_if_eq X 8 27 11 dX6_worth_8 rfl rfl ?_ ?_
  · refine gx_sub [] rfl ?_
    exact hk_27 m2
  refine gx_aload_n X 11 12 0 dX6_worth_11 rfl rfl rfl ?_
  refine gx_getR X 12 15 0 (by decide) rfl rfl fg_X6_10 dX6_worth_12 rfl ?_
  refine gx_iload_n X 15 16 2 dX6_worth_15 rfl rfl rfl ?_
  refine gx_calliV X 16 19 1 (rest := []) (As := [.int a2]) (tX3_has hJ a2 m2) (by decide) rfl rfl wc_X3_has wl_X6_83 wi_X3_has ws_X3_has wn_X3 rfl hd_X3_has ⟨Nat.le_of_ble_eq_true rfl, Nat.le_of_ble_eq_true rfl⟩ ⟨rfl, rfl⟩ rfl rfl (Nat.le_of_ble_eq_true rfl) dX6_worth_16 rfl (fun x4 m5 => ?_)
  refine gx_if_eq X 19 27 22 dX6_worth_19 rfl rfl ?_ ?_
  · refine gx_sub [] rfl ?_
    exact hk_27 m5
  refine gx_iload_n X 22 23 1 dX6_worth_22 rfl rfl rfl ?_
  refine gx_iload_n X 23 24 2 dX6_worth_23 rfl rfl rfl ?_
  refine gx_icmp_ne X 24 30 27 dX6_worth_24 rfl rfl ?_ ?_
  · refine gx_aload_n X 30 31 0 dX6_worth_30 rfl rfl rfl ?_
    refine gx_getR X 31 34 0 (by decide) rfl rfl fg_X6_33 dX6_worth_31 rfl ?_
    refine gx_aload_n X 34 35 0 dX6_worth_34 rfl rfl rfl ?_
    refine gx_getR X 35 38 0 (by decide) rfl rfl fg_X6_10 dX6_worth_35 rfl ?_
    refine gx_callvV X 38 41 30 (rest := []) (As := [.ref (adr 1)]) (tX0_load hJ m5) (by decide) rfl rfl wc_X0_load wl_X6_120 wi_X0_load ws_X0_load wn_X0 rfl hd_X0_load ⟨Nat.le_of_ble_eq_true rfl, Nat.le_of_ble_eq_true rfl⟩ ⟨rfl, rfl⟩ rfl rfl (Nat.le_of_ble_eq_true rfl) dX6_worth_38 rfl (fun x6 m7 => ?_)
    refine gx_aload_n X 41 42 0 dX6_worth_41 rfl rfl rfl ?_
    refine gx_getR X 42 45 0 (by decide) rfl rfl fg_X6_33 dX6_worth_42 rfl ?_
    refine gx_sipush X 45 48 (999) dX6_worth_45 rfl cs_999 ?_
    refine gx_callvV X 48 51 30 (rest := []) (As := [.int 999]) (tX0_run hJ 999 m7) (by decide) rfl rfl wc_X0_run wl_X6_124 wi_X0_run ws_X0_run wn_X0 rfl hd_X0_run ⟨Nat.le_of_ble_eq_true rfl, Nat.le_of_ble_eq_true rfl⟩ ⟨rfl, rfl⟩ rfl rfl (Nat.le_of_ble_eq_true rfl) dX6_worth_48 rfl (fun x8 m9 => ?_)
    refine gx_aload_n X 51 52 0 dX6_worth_51 rfl rfl rfl ?_
    refine gx_getR X 52 55 0 (by decide) rfl rfl fg_X6_33 dX6_worth_52 rfl ?_
    refine gx_calliV X 55 58 30 (rest := []) (As := []) (tX0_sumOfOver hJ m9) (by decide) rfl rfl wc_X0_sumOfOver wl_X6_170 wi_X0_sumOfOver ws_X0_sumOfOver wn_X0 rfl hd_X0_sumOfOver ⟨Nat.le_of_ble_eq_true rfl, Nat.le_of_ble_eq_true rfl⟩ ⟨rfl, rfl⟩ rfl rfl (Nat.le_of_ble_eq_true rfl) dX6_worth_55 rfl (fun x10 m11 => ?_)
    refine gx_istore_n X 58 59 (fun x12 => [(3, .int x12), (0, .ref (adr 0)), (1, .int a1), (2, .int a2)]) dX6_worth_58 rfl rfl (by decide) (fun _ => rfl) (fun x12 => ?_)
    refine gx_iload_n X 59 60 0 dX6_worth_59 rfl rfl rfl ?_
    refine gx_aload_n X 60 61 1 dX6_worth_60 rfl rfl rfl ?_
    refine gx_iload_n X 61 62 2 dX6_worth_61 rfl rfl rfl ?_
    refine gx_iload_n X 62 63 3 dX6_worth_62 rfl rfl rfl ?_
    refine gx_calliV X 63 66 0 (rest := [.int x12]) (As := [.int a1, .int a2]) (tX6_sumIfHeld hJ a1 a2 m11) (by decide) rfl rfl wc_X6_sumIfHeld wl_X6_205 wi_X6_sumIfHeld ws_X6_sumIfHeld wn_X6 rfl hd_X6_sumIfHeld ⟨Nat.le_of_ble_eq_true rfl, Nat.le_of_ble_eq_true rfl⟩ ⟨rfl, rfl⟩ rfl rfl (Nat.le_of_ble_eq_true rfl) dX6_worth_63 rfl (fun x13 m14 => ?_)
    refine gx_isub X 66 67 dX6_worth_66 rfl ?_
    exact gx_iret X 67 hr dX6_worth_67
  refine gx_sub [] rfl ?_
  exact hk_27 m5
def fX6_waits_L48 (a1 : Int32) (x9 : Int32) (k_109 : Int32 → Int32 → Mm → Aa) (rec_48 : Int32 → Int32 → Int32 → Mm → Aa) (x16 : Int32) (x17 : Int32) (x18 : Int32) (m19 : Mm) : Aa := if (m19 1 1) ≤ x18 then (k_109 x16 x17 m19) else (mm_lt (fun (x20 : Int32) (m21 : Mm) => mm_lt x20 (fun (x22 : Int32) => mm_lt (fun (x23 : Int32) (x24 : Int32) (m25 : Mm) => mm_lt (x18 + 1) (fun (x26 : Int32) => rec_48 x23 x24 x26 m25)) (fun (k_103 : Int32 → Int32 → Mm → Aa) => if x16 ≤ x22 then (k_103 x16 x17 m21) else (mm_lt x22 (fun (x27 : Int32) => mm_lt (fun (x28 : Int32) (m29 : Mm) => mm_lt x28 (fun (x30 : Int32) => k_103 x27 x30 m29)) (fun (k_102 : Int32 → Mm → Aa) => if a1 = 0 then (k_102 x9 m21) else (k_102 x18 m21))))))) (fun (k_80 : Int32 → Mm → Aa) => if x9 = x18 then (k_80 1000000 m19) else (mm_cl (fX6_sumIfHeld x9 x18 m19) (fun (x31 : Int32) (m32 : Mm) => k_80 x31 m32))))
def fX6_waits_L33 (a1 : Int32) (k_115 : Int32 → Mm → Aa) (rec_33 : Int32 → Int32 → Int32 → Mm → Aa) (x7 : Int32) (x8 : Int32) (x9 : Int32) (m10 : Mm) : Aa := if (m10 1 1) ≤ x9 then (k_115 x8 m10) else (mm_lt 0 (fun (x11 : Int32) => mm_lt (fun (x12 : Int32) (x13 : Int32) (m14 : Mm) => mm_lt (x9 + 1) (fun (x15 : Int32) => rec_33 x12 x13 x15 m14)) (fun (k_109 : Int32 → Int32 → Mm → Aa) => mm_lk (fun (_ : Int32) (_ : Int32) (_ : Int32) (_ : Mm) => (none : Aa)) (fX6_waits_L48 a1 x9 k_109) mm_fu x7 x8 x11 m10)))
def fX6_waits (a1 : Int32) (μ : Mm) : Aa := mm_lt (fun (m1 : Mm) => some ((-1), m1)) (fun (k_9 : Mm → Aa) => if a1 < 0 then (k_9 μ) else (if a1 ≤ 1 then (if 2 ≤ (μ 1 1) then (mm_lt 1000000 (fun (x2 : Int32) => mm_lt 0 (fun (x3 : Int32) => mm_lt 0 (fun (x4 : Int32) => mm_lt (fun (x5 : Int32) (m6 : Mm) => some (x5, m6)) (fun (k_115 : Int32 → Mm → Aa) => mm_lk (fun (_ : Int32) (_ : Int32) (_ : Int32) (_ : Mm) => (none : Aa)) (fX6_waits_L33 a1 k_115) mm_fu x2 x3 x4 μ))))) else (some ((-2), μ))) else (k_9 μ)))
abbrev rX6_waits : Room := { frames := 6, cells := 0, slots := 0, locals := 132 }
set_option maxRecDepth 100000 in
set_option maxHeartbeats 8000000 in
theorem tX6_waits {l : Launch} {D : va_G} {cA : Nat → ClassId} {adr : Nat → Nat} {tt sK sV : Nat → Nat} {qv : Value} (hJ : mm_J adr NX) (a1 : Int32) (μ : Mm) : mm_Mi l D cA adr sX NX (mm_SX (mm_A adr NX) tt sK sV qv) yX6_waits cX6_waits 7 (some .int) rX6_waits [.ref (adr 0), .int a1] μ (fX6_waits a1 μ) := by
  refine mm_entryi hJ mm_okX (by decide) (Nat.le_of_ble_eq_true rfl) ⟨rfl, rfl⟩ (fun p e s m below meth c X hr => ?_)
  generalize ([.ref (adr 0), .int a1] : List Value).toArray = args at X ⊢
  refine gx_lv (lv' := [(0, .ref (adr 0)), (1, .int a1)]) rfl ?_
  unfold fX6_waits
  refine gx_iload_n X 0 1 1 dX6_waits_0 rfl rfl rfl ?_
  refine gx_jn (fun (k : Mm → Aa) => ∀ (m1 : Mm), mm_G p l e rX6_waits s m args below meth c 7 D cA adr sX NX (mm_Qi D cA adr sX NX) m1 9 [] [] (k m1)) ?_ (fun k_9 hk_9 => ?_)
  · intro m1
    refine gx_iconst X 9 10 (-1) dX6_waits_9 rfl ci_m1 ?_
    exact gx_iret X 10 hr dX6_waits_10
  refine gx_if_lt X 1 9 4 dX6_waits_1 rfl rfl ?_ ?_
  · refine gx_sub [] rfl ?_
    exact hk_9 μ
  refine gx_iload_n X 4 5 1 dX6_waits_4 rfl rfl rfl ?_
  refine gx_iconst X 5 6 (1) dX6_waits_5 rfl ci_1 ?_
  refine gx_icmp_le X 6 11 9 dX6_waits_6 rfl rfl ?_ ?_
  · refine gx_aload_n X 11 12 0 dX6_waits_11 rfl rfl rfl ?_
    refine gx_getR X 12 15 0 (by decide) rfl rfl fg_X6_10 dX6_waits_12 rfl ?_
    refine gx_getI X 15 18 1 (by decide) rfl rfl fg_X6_80 dX6_waits_15 rfl ?_
    refine gx_iconst X 18 19 (2) dX6_waits_18 rfl ci_2 ?_
    refine gx_icmp_ge X 19 25 22 dX6_waits_19 rfl rfl ?_ ?_
    · refine gx_ldc X 25 27 wk_X6_209 dX6_waits_25 rfl ?_
      refine gx_istore_n X 27 28 (fun x2 => [(2, .int x2), (0, .ref (adr 0)), (1, .int a1)]) dX6_waits_27 rfl rfl (by decide) (fun _ => rfl) (fun x2 => ?_)
      refine gx_iconst X 28 29 (0) dX6_waits_28 rfl ci_0 ?_
      refine gx_istore_n X 29 30 (fun x3 => [(3, .int x3), (2, .int x2), (0, .ref (adr 0)), (1, .int a1)]) dX6_waits_29 rfl rfl (by decide) (fun _ => rfl) (fun x3 => ?_)
      refine gx_iconst X 30 31 (0) dX6_waits_30 rfl ci_0 ?_
      refine gx_istore X 31 33 (fun x4 => [(4, .int x4), (3, .int x3), (2, .int x2), (0, .ref (adr 0)), (1, .int a1)]) dX6_waits_31 rfl (by decide) (fun _ => rfl) (fun x4 => ?_)
      refine gx_jn (fun (k : Int32 → Mm → Aa) => ∀ (x5 : Int32) (m6 : Mm), mm_G p l e rX6_waits s m args below meth c 7 D cA adr sX NX (mm_Qi D cA adr sX NX) m6 115 [(3, .int x5)] [] (k x5 m6)) ?_ (fun k_115 hk_115 => ?_)
      · intro x5 m6
        refine gx_iload_n X 115 116 0 dX6_waits_115 rfl rfl rfl ?_
        exact gx_iret X 116 hr dX6_waits_116
      refine gx_sub [3, 4, 2, 1, 0] rfl ?_
      refine mm_lk_ind (fun (rec : Int32 → Int32 → Int32 → Mm → Aa) => ∀ (x7 : Int32) (x8 : Int32) (x9 : Int32) (m10 : Mm), mm_G p l e rX6_waits s m args below meth c 7 D cA adr sX NX (mm_Qi D cA adr sX NX) m10 33 [(0, .ref (adr 0)), (1, .int a1), (2, .int x7), (3, .int x8), (4, .int x9)] [] (rec x7 x8 x9 m10)) (fun _ _ _ _ => gx_none) (fun rec_33 hr_33 x7 x8 x9 m10 => ?_) mm_fu x2 x3 x4 μ
      unfold fX6_waits_L33
      refine gx_iload X 33 35 4 dX6_waits_33 rfl rfl ?_
      refine gx_aload_n X 35 36 0 dX6_waits_35 rfl rfl rfl ?_
      refine gx_getR X 36 39 0 (by decide) rfl rfl fg_X6_10 dX6_waits_36 rfl ?_
      refine gx_getI X 39 42 1 (by decide) rfl rfl fg_X6_80 dX6_waits_39 rfl ?_
      refine gx_icmp_ge X 42 115 45 dX6_waits_42 rfl rfl ?_ ?_
      · refine gx_sub [3] rfl ?_
        exact hk_115 x8 m10
      refine gx_iconst X 45 46 (0) dX6_waits_45 rfl ci_0 ?_
      refine gx_istore X 46 48 (fun x11 => [(5, .int x11), (0, .ref (adr 0)), (1, .int a1), (2, .int x7), (3, .int x8), (4, .int x9)]) dX6_waits_46 rfl (by decide) (fun _ => rfl) (fun x11 => ?_)
      refine gx_jn (fun (k : Int32 → Int32 → Mm → Aa) => ∀ (x12 : Int32) (x13 : Int32) (m14 : Mm), mm_G p l e rX6_waits s m args below meth c 7 D cA adr sX NX (mm_Qi D cA adr sX NX) m14 109 [(0, .ref (adr 0)), (1, .int a1), (2, .int x12), (3, .int x13), (4, .int x9)] [] (k x12 x13 m14)) ?_ (fun k_109 hk_109 => ?_)
      · intro x12 x13 m14
        refine gx_iinc X 109 112 4 (1) (fun x15 => [(4, .int x15), (0, .ref (adr 0)), (1, .int a1), (2, .int x12), (3, .int x13)]) dX6_waits_109 rfl rfl ci_1 (by decide) (fun _ => rfl) (fun x15 => ?_)
        refine gx_goto X 112 33 dX6_waits_112 rfl ?_
        refine gx_sub [1, 2, 3, 4, 0] rfl ?_
        exact hr_33 x12 x13 x15 m14
      refine gx_sub [1, 2, 3, 4, 5, 0] rfl ?_
      refine mm_lk_ind (fun (rec : Int32 → Int32 → Int32 → Mm → Aa) => ∀ (x16 : Int32) (x17 : Int32) (x18 : Int32) (m19 : Mm), mm_G p l e rX6_waits s m args below meth c 7 D cA adr sX NX (mm_Qi D cA adr sX NX) m19 48 [(0, .ref (adr 0)), (1, .int a1), (2, .int x16), (3, .int x17), (4, .int x9), (5, .int x18)] [] (rec x16 x17 x18 m19)) (fun _ _ _ _ => gx_none) (fun rec_48 hr_48 x16 x17 x18 m19 => ?_) mm_fu x7 x8 x11 m10
      unfold fX6_waits_L48
      refine gx_iload X 48 50 5 dX6_waits_48 rfl rfl ?_
      refine gx_aload_n X 50 51 0 dX6_waits_50 rfl rfl rfl ?_
      refine gx_getR X 51 54 0 (by decide) rfl rfl fg_X6_10 dX6_waits_51 rfl ?_
      refine gx_getI X 54 57 1 (by decide) rfl rfl fg_X6_80 dX6_waits_54 rfl ?_
      refine gx_icmp_ge X 57 109 60 dX6_waits_57 rfl rfl ?_ ?_
      · refine gx_sub [0, 1, 2, 3, 4] rfl ?_
        exact hk_109 x16 x17 m19
      refine gx_iload X 60 62 4 dX6_waits_60 rfl rfl ?_
      refine gx_iload X 62 64 5 dX6_waits_62 rfl rfl ?_
      refine gx_jn (fun (k : Int32 → Mm → Aa) => ∀ (x20 : Int32) (m21 : Mm), mm_G p l e rX6_waits s m args below meth c 7 D cA adr sX NX (mm_Qi D cA adr sX NX) m21 80 [(0, .ref (adr 0)), (1, .int a1), (2, .int x16), (3, .int x17), (4, .int x9), (5, .int x18)] [.int x20] (k x20 m21)) ?_ (fun k_80 hk_80 => ?_)
      · intro x20 m21
        refine gx_istore X 80 82 (fun x22 => [(6, .int x22), (0, .ref (adr 0)), (1, .int a1), (2, .int x16), (3, .int x17), (4, .int x9), (5, .int x18)]) dX6_waits_80 rfl (by decide) (fun _ => rfl) (fun x22 => ?_)
        refine gx_iload X 82 84 0 dX6_waits_82 rfl rfl ?_
        refine gx_iload_n X 84 85 3 dX6_waits_84 rfl rfl rfl ?_
        refine gx_jn (fun (k : Int32 → Int32 → Mm → Aa) => ∀ (x23 : Int32) (x24 : Int32) (m25 : Mm), mm_G p l e rX6_waits s m args below meth c 7 D cA adr sX NX (mm_Qi D cA adr sX NX) m25 103 [(0, .ref (adr 0)), (1, .int a1), (2, .int x23), (3, .int x24), (4, .int x9), (5, .int x18)] [] (k x23 x24 m25)) ?_ (fun k_103 hk_103 => ?_)
        · intro x23 x24 m25
          refine gx_iinc X 103 106 5 (1) (fun x26 => [(5, .int x26), (0, .ref (adr 0)), (1, .int a1), (2, .int x23), (3, .int x24), (4, .int x9)]) dX6_waits_103 rfl rfl ci_1 (by decide) (fun _ => rfl) (fun x26 => ?_)
          refine gx_goto X 106 48 dX6_waits_106 rfl ?_
          refine gx_sub [1, 2, 3, 4, 5, 0] rfl ?_
          exact hr_48 x23 x24 x26 m25
        refine gx_icmp_ge X 85 103 88 dX6_waits_85 rfl rfl ?_ ?_
        · refine gx_sub [1, 2, 3, 4, 5, 6] rfl ?_
          exact hk_103 x16 x17 m21
        refine gx_iload X 88 90 0 dX6_waits_88 rfl rfl ?_
        refine gx_istore_n X 90 91 (fun x27 => [(2, .int x27), (6, .int x22), (0, .ref (adr 0)), (1, .int a1), (3, .int x17), (4, .int x9), (5, .int x18)]) dX6_waits_90 rfl rfl (by decide) (fun _ => rfl) (fun x27 => ?_)
        refine gx_iload_n X 91 92 3 dX6_waits_91 rfl rfl rfl ?_
        refine gx_jn (fun (k : Int32 → Mm → Aa) => ∀ (x28 : Int32) (m29 : Mm), mm_G p l e rX6_waits s m args below meth c 7 D cA adr sX NX (mm_Qi D cA adr sX NX) m29 102 [(0, .ref (adr 0)), (1, .int a1), (2, .int x27), (4, .int x9), (5, .int x18)] [.int x28] (k x28 m29)) ?_ (fun k_102 hk_102 => ?_)
        · intro x28 m29
          refine gx_istore_n X 102 103 (fun x30 => [(3, .int x30), (0, .ref (adr 0)), (1, .int a1), (2, .int x27), (4, .int x9), (5, .int x18)]) dX6_waits_102 rfl rfl (by decide) (fun _ => rfl) (fun x30 => ?_)
          refine gx_sub [1, 2, 3, 0, 4, 5] rfl ?_
          exact hk_103 x27 x30 m29
        refine gx_if_ne X 92 100 95 dX6_waits_92 rfl rfl ?_ ?_
        · refine gx_iload X 100 102 6 dX6_waits_100 rfl rfl ?_
          refine gx_sub [2, 3, 0, 5, 6] rfl ?_
          exact hk_102 x18 m21
        refine gx_iload X 95 97 5 dX6_waits_95 rfl rfl ?_
        refine gx_goto X 97 102 dX6_waits_97 rfl ?_
        refine gx_sub [2, 3, 0, 5, 6] rfl ?_
        exact hk_102 x9 m21
      refine gx_icmp_ne X 64 72 67 dX6_waits_64 rfl rfl ?_ ?_
      · refine gx_aload_n X 72 73 0 dX6_waits_72 rfl rfl rfl ?_
        refine gx_iload X 73 75 4 dX6_waits_73 rfl rfl ?_
        refine gx_iload X 75 77 5 dX6_waits_75 rfl rfl ?_
        refine gx_calliV X 77 80 0 (rest := []) (As := [.int x9, .int x18]) (tX6_sumIfHeld hJ x9 x18 m19) (by decide) rfl rfl wc_X6_sumIfHeld wl_X6_205 wi_X6_sumIfHeld ws_X6_sumIfHeld wn_X6 rfl hd_X6_sumIfHeld ⟨Nat.le_of_ble_eq_true rfl, Nat.le_of_ble_eq_true rfl⟩ ⟨rfl, rfl⟩ rfl rfl (Nat.le_of_ble_eq_true rfl) dX6_waits_77 rfl (fun x31 m32 => ?_)
        exact hk_80 x31 m32
      refine gx_ldc X 67 69 wk_X6_209 dX6_waits_67 rfl ?_
      refine gx_goto X 69 80 dX6_waits_69 rfl ?_
      exact hk_80 1000000 m19
    refine gx_bipush X 22 24 (-2) dX6_waits_22 rfl cb_m2 ?_
    exact gx_iret X 24 hr dX6_waits_24
  refine gx_sub [] rfl ?_
  exact hk_9 μ
def fX6_handed (a1 : Int32) (a2 : Int32) (μ : Mm) : Aa := mm_cl (fX3_has a1 μ) (fun (x1 : Int32) (m2 : Mm) => mm_lt (fun (m3 : Mm) => some ((-1), m3)) (fun (k_47 : Mm → Aa) => if x1 = 0 then (k_47 m2) else (mm_cl (fX3_has a2 m2) (fun (x4 : Int32) (m5 : Mm) => if x4 = 0 then (k_47 m5) else (mm_ck a1 10 (mm_ck 1 7 (mm_ck a2 10 (mm_ck 1 7 (if (m5 ((4 + a1.toNatClampNeg)) (1 : Int32).toNatClampNeg) = (m5 ((4 + a2.toNatClampNeg)) (1 : Int32).toNatClampNeg) then (k_47 m5) else (mm_cl (fX3_paceOf a1 m5) (fun (x8 : Int32) (m9 : Mm) => mm_cl (fX3_paceOf a2 m9) (fun (x10 : Int32) (m11 : Mm) => mm_cl (fX6_cutUp (m5 1 0) (x8 + x10) m11) (fun (x12 : Int32) (m13 : Mm) => some (2 * x12, m13))))))))))))))
abbrev rX6_handed : Room := { frames := 3, cells := 0, slots := 0, locals := 63 }
set_option maxRecDepth 100000 in
set_option maxHeartbeats 8000000 in
theorem tX6_handed {l : Launch} {D : va_G} {cA : Nat → ClassId} {adr : Nat → Nat} {tt sK sV : Nat → Nat} {qv : Value} (hJ : mm_J adr NX) (a1 : Int32) (a2 : Int32) (μ : Mm) : mm_Mi l D cA adr sX NX (mm_SX (mm_A adr NX) tt sK sV qv) yX6_handed cX6_handed 3 (some .int) rX6_handed [.ref (adr 0), .int a1, .int a2] μ (fX6_handed a1 a2 μ) := by
  refine mm_entryi hJ mm_okX (by decide) (Nat.le_of_ble_eq_true rfl) ⟨rfl, rfl⟩ (fun p e s m below meth c X hr => ?_)
  generalize ([.ref (adr 0), .int a1, .int a2] : List Value).toArray = args at X ⊢
  refine gx_lv (lv' := [(0, .ref (adr 0)), (1, .int a1), (2, .int a2)]) rfl ?_
  unfold fX6_handed
  refine gx_aload_n X 0 1 0 dX6_handed_0 rfl rfl rfl ?_
  refine gx_getR X 1 4 0 (by decide) rfl rfl fg_X6_10 dX6_handed_1 rfl ?_
  refine gx_iload_n X 4 5 1 dX6_handed_4 rfl rfl rfl ?_
  refine gx_calliV X 5 8 1 (rest := []) (As := [.int a1]) (tX3_has hJ a1 μ) (by decide) rfl rfl wc_X3_has wl_X6_83 wi_X3_has ws_X3_has wn_X3 rfl hd_X3_has ⟨Nat.le_of_ble_eq_true rfl, Nat.le_of_ble_eq_true rfl⟩ ⟨rfl, rfl⟩ rfl rfl (Nat.le_of_ble_eq_true rfl) dX6_handed_5 rfl (fun x1 m2 => ?_)
  refine gx_jn (fun (k : Mm → Aa) => ∀ (m3 : Mm), mm_G p l e rX6_handed s m args below meth c 3 D cA adr sX NX (mm_Qi D cA adr sX NX) m3 47 [] [] (k m3)) ?_ (fun k_47 hk_47 => ?_)
  · intro m3
    refine gx_iconst X 47 48 (-1) dX6_handed_47 rfl ci_m1 ?_
    exact gx_iret X 48 hr dX6_handed_48
  refine gx_if_eq X 8 47 11 dX6_handed_8 rfl rfl ?_ ?_
  · refine gx_sub [] rfl ?_
    exact hk_47 m2
  refine gx_aload_n X 11 12 0 dX6_handed_11 rfl rfl rfl ?_
  refine gx_getR X 12 15 0 (by decide) rfl rfl fg_X6_10 dX6_handed_12 rfl ?_
  refine gx_iload_n X 15 16 2 dX6_handed_15 rfl rfl rfl ?_
  refine gx_calliV X 16 19 1 (rest := []) (As := [.int a2]) (tX3_has hJ a2 m2) (by decide) rfl rfl wc_X3_has wl_X6_83 wi_X3_has ws_X3_has wn_X3 rfl hd_X3_has ⟨Nat.le_of_ble_eq_true rfl, Nat.le_of_ble_eq_true rfl⟩ ⟨rfl, rfl⟩ rfl rfl (Nat.le_of_ble_eq_true rfl) dX6_handed_16 rfl (fun x4 m5 => ?_)
  refine gx_if_eq X 19 47 22 dX6_handed_19 rfl rfl ?_ ?_
  · refine gx_sub [] rfl ?_
    exact hk_47 m5
  refine gx_aload_n X 22 23 0 dX6_handed_22 rfl rfl rfl ?_
  refine gx_getR X 23 26 0 (by decide) rfl rfl fg_X6_10 dX6_handed_23 rfl ?_
  refine gx_getR X 26 29 1 (by decide) rfl rfl fg_X6_90 dX6_handed_26 rfl ?_
  refine gx_iload_n X 29 30 1 dX6_handed_29 rfl rfl rfl ?_
  refine gx_aaload X 30 31 3 (by decide) rfl rfl rfl dX6_handed_30 rfl (fun h6 => ?_)
  refine gx_iconst X 31 32 (1) dX6_handed_31 rfl ci_1 ?_
  refine gx_iaload X 32 33 ((4 + a1.toNatClampNeg)) (sX_fl h6) (sX_f h6) dX6_handed_32 rfl ?_
  refine gx_aload_n X 33 34 0 dX6_handed_33 rfl rfl rfl ?_
  refine gx_getR X 34 37 0 (by decide) rfl rfl fg_X6_10 dX6_handed_34 rfl ?_
  refine gx_getR X 37 40 1 (by decide) rfl rfl fg_X6_90 dX6_handed_37 rfl ?_
  refine gx_iload_n X 40 41 2 dX6_handed_40 rfl rfl rfl ?_
  refine gx_aaload X 41 42 3 (by decide) rfl rfl rfl dX6_handed_41 rfl (fun h7 => ?_)
  refine gx_iconst X 42 43 (1) dX6_handed_42 rfl ci_1 ?_
  refine gx_iaload X 43 44 ((4 + a2.toNatClampNeg)) (sX_fl h7) (sX_f h7) dX6_handed_43 rfl ?_
  refine gx_icmp_ne X 44 49 47 dX6_handed_44 rfl rfl ?_ ?_
  · refine gx_iconst X 49 50 (2) dX6_handed_49 rfl ci_2 ?_
    refine gx_aload_n X 50 51 0 dX6_handed_50 rfl rfl rfl ?_
    refine gx_getR X 51 54 0 (by decide) rfl rfl fg_X6_10 dX6_handed_51 rfl ?_
    refine gx_getI X 54 57 1 (by decide) rfl rfl fg_X6_51 dX6_handed_54 rfl ?_
    refine gx_aload_n X 57 58 0 dX6_handed_57 rfl rfl rfl ?_
    refine gx_getR X 58 61 0 (by decide) rfl rfl fg_X6_10 dX6_handed_58 rfl ?_
    refine gx_iload_n X 61 62 1 dX6_handed_61 rfl rfl rfl ?_
    refine gx_calliV X 62 65 1 (rest := [.int (m5 1 0), .int 2]) (As := [.int a1]) (tX3_paceOf hJ a1 m5) (by decide) rfl rfl wc_X3_paceOf wl_X6_86 wi_X3_paceOf ws_X3_paceOf wn_X3 rfl hd_X3_paceOf ⟨Nat.le_of_ble_eq_true rfl, Nat.le_of_ble_eq_true rfl⟩ ⟨rfl, rfl⟩ rfl rfl (Nat.le_of_ble_eq_true rfl) dX6_handed_62 rfl (fun x8 m9 => ?_)
    refine gx_aload_n X 65 66 0 dX6_handed_65 rfl rfl rfl ?_
    refine gx_getR X 66 69 0 (by decide) rfl rfl fg_X6_10 dX6_handed_66 rfl ?_
    refine gx_iload_n X 69 70 2 dX6_handed_69 rfl rfl rfl ?_
    refine gx_calliV X 70 73 1 (rest := [.int x8, .int (m5 1 0), .int 2]) (As := [.int a2]) (tX3_paceOf hJ a2 m9) (by decide) rfl rfl wc_X3_paceOf wl_X6_86 wi_X3_paceOf ws_X3_paceOf wn_X3 rfl hd_X3_paceOf ⟨Nat.le_of_ble_eq_true rfl, Nat.le_of_ble_eq_true rfl⟩ ⟨rfl, rfl⟩ rfl rfl (Nat.le_of_ble_eq_true rfl) dX6_handed_70 rfl (fun x10 m11 => ?_)
    refine gx_iadd X 73 74 dX6_handed_73 rfl ?_
    refine gx_calliS X 74 77 (rest := [.int 2]) (As := [.int (m5 1 0), .int (x8 + x10)]) (tX6_cutUp hJ (m5 1 0) (x8 + x10) m11) wc_X6_cutUp wl_X6_210 wt_X6_cutUp wn_X6 hd_X6_cutUp ⟨Nat.le_of_ble_eq_true rfl, Nat.le_of_ble_eq_true rfl⟩ ⟨rfl, rfl⟩ rfl rfl (Nat.le_of_ble_eq_true rfl) dX6_handed_74 rfl (fun x12 m13 => ?_)
    refine gx_imul X 77 78 dX6_handed_77 rfl ?_
    exact gx_iret X 78 hr dX6_handed_78
  refine gx_sub [] rfl ?_
  exact hk_47 m5
def fX6_ford (a1 : Int32) (μ : Mm) : Aa := mm_cl (fX3_has a1 μ) (fun (x1 : Int32) (m2 : Mm) => if x1 = 0 then (some ((-1), m2)) else (mm_ck 5 6 (mm_lt (m2 2 (5 : Int32).toNatClampNeg) (fun (x3 : Int32) => mm_lt (fun (x4 : Int32) (m5 : Mm) => some (x4, m5)) (fun (k_44 : Int32 → Mm → Aa) => if x3 = 0 then (k_44 ((-2)) m2) else (mm_cl (fX3_paceOf a1 m2) (fun (x6 : Int32) (m7 : Mm) => k_44 ((x6 * x3) + 1) m7)))))))
abbrev rX6_ford : Room := { frames := 3, cells := 0, slots := 0, locals := 63 }
set_option maxRecDepth 100000 in
set_option maxHeartbeats 8000000 in
theorem tX6_ford {l : Launch} {D : va_G} {cA : Nat → ClassId} {adr : Nat → Nat} {tt sK sV : Nat → Nat} {qv : Value} (hJ : mm_J adr NX) (a1 : Int32) (μ : Mm) : mm_Mi l D cA adr sX NX (mm_SX (mm_A adr NX) tt sK sV qv) yX6_ford cX6_ford 3 (some .int) rX6_ford [.ref (adr 0), .int a1] μ (fX6_ford a1 μ) := by
  refine mm_entryi hJ mm_okX (by decide) (Nat.le_of_ble_eq_true rfl) ⟨rfl, rfl⟩ (fun p e s m below meth c X hr => ?_)
  generalize ([.ref (adr 0), .int a1] : List Value).toArray = args at X ⊢
  refine gx_lv (lv' := [(0, .ref (adr 0)), (1, .int a1)]) rfl ?_
  unfold fX6_ford
  refine gx_aload_n X 0 1 0 dX6_ford_0 rfl rfl rfl ?_
  refine gx_getR X 1 4 0 (by decide) rfl rfl fg_X6_10 dX6_ford_1 rfl ?_
  refine gx_iload_n X 4 5 1 dX6_ford_4 rfl rfl rfl ?_
  refine gx_calliV X 5 8 1 (rest := []) (As := [.int a1]) (tX3_has hJ a1 μ) (by decide) rfl rfl wc_X3_has wl_X6_83 wi_X3_has ws_X3_has wn_X3 rfl hd_X3_has ⟨Nat.le_of_ble_eq_true rfl, Nat.le_of_ble_eq_true rfl⟩ ⟨rfl, rfl⟩ rfl rfl (Nat.le_of_ble_eq_true rfl) dX6_ford_5 rfl (fun x1 m2 => ?_)
  refine gx_if_ne X 8 13 11 dX6_ford_8 rfl rfl ?_ ?_
  · refine gx_aload_n X 13 14 0 dX6_ford_13 rfl rfl rfl ?_
    refine gx_getR X 14 17 0 (by decide) rfl rfl fg_X6_10 dX6_ford_14 rfl ?_
    refine gx_getR X 17 20 1 (by decide) rfl rfl fg_X6_65 dX6_ford_17 rfl ?_
    refine gx_iconst X 20 21 (5) dX6_ford_20 rfl ci_5 ?_
    refine gx_iaload X 21 22 2 (by decide) rfl dX6_ford_21 rfl ?_
    refine gx_istore_n X 22 23 (fun x3 => [(2, .int x3), (0, .ref (adr 0)), (1, .int a1)]) dX6_ford_22 rfl rfl (by decide) (fun _ => rfl) (fun x3 => ?_)
    refine gx_iload_n X 23 24 0 dX6_ford_23 rfl rfl rfl ?_
    refine gx_jn (fun (k : Int32 → Mm → Aa) => ∀ (x4 : Int32) (m5 : Mm), mm_G p l e rX6_ford s m args below meth c 3 D cA adr sX NX (mm_Qi D cA adr sX NX) m5 44 [] [.int x4] (k x4 m5)) ?_ (fun k_44 hk_44 => ?_)
    · intro x4 m5
      exact gx_iret X 44 hr dX6_ford_44
    refine gx_if_ne X 24 32 27 dX6_ford_24 rfl rfl ?_ ?_
    · refine gx_aload_n X 32 33 1 dX6_ford_32 rfl rfl rfl ?_
      refine gx_getR X 33 36 0 (by decide) rfl rfl fg_X6_10 dX6_ford_33 rfl ?_
      refine gx_iload_n X 36 37 2 dX6_ford_36 rfl rfl rfl ?_
      refine gx_calliV X 37 40 1 (rest := []) (As := [.int a1]) (tX3_paceOf hJ a1 m2) (by decide) rfl rfl wc_X3_paceOf wl_X6_86 wi_X3_paceOf ws_X3_paceOf wn_X3 rfl hd_X3_paceOf ⟨Nat.le_of_ble_eq_true rfl, Nat.le_of_ble_eq_true rfl⟩ ⟨rfl, rfl⟩ rfl rfl (Nat.le_of_ble_eq_true rfl) dX6_ford_37 rfl (fun x6 m7 => ?_)
      refine gx_iload_n X 40 41 0 dX6_ford_40 rfl rfl rfl ?_
      refine gx_imul X 41 42 dX6_ford_41 rfl ?_
      refine gx_iconst X 42 43 (1) dX6_ford_42 rfl ci_1 ?_
      refine gx_iadd X 43 44 dX6_ford_43 rfl ?_
      refine gx_sub [] rfl ?_
      exact hk_44 ((x6 * x3) + 1) m7
    refine gx_bipush X 27 29 (-2) dX6_ford_27 rfl cb_m2 ?_
    refine gx_goto X 29 44 dX6_ford_29 rfl ?_
    refine gx_sub [] rfl ?_
    exact hk_44 ((-2)) m2
  refine gx_iconst X 11 12 (-1) dX6_ford_11 rfl ci_m1 ?_
  exact gx_iret X 12 hr dX6_ford_12
def fX6_shared_L41 (a1 : Int32) (k_134 : Int32 → Int32 → Mm → Aa) (rec_41 : Int32 → Int32 → Int32 → Mm → Aa) (x12 : Int32) (x13 : Int32) (x14 : Int32) (m15 : Mm) : Aa := if (1 <<< ((m15 1 1) &&& 31)) ≤ x14 then (k_134 x12 x13 m15) else (mm_cl (fJ6_bitCount x14 m15) (fun (x16 : Int32) (m17 : Mm) => mm_lt (fun (x18 : Int32) (x19 : Int32) (m20 : Mm) => mm_lt (x14 + 1) (fun (x21 : Int32) => rec_41 x18 x19 x21 m20)) (fun (k_128 : Int32 → Int32 → Mm → Aa) => if x16 ≤ a1 then (mm_lt (mm_wr m17 30 2 x14) (fun (m22 : Mm) => mm_cl (fX0_run 999 m22) (fun (x23 : Int32) (m24 : Mm) => mm_cl (fX0_sumOfOver m24) (fun (x25 : Int32) (m26 : Mm) => mm_lt x25 (fun (x27 : Int32) => mm_lt (fun (m28 : Mm) => mm_lt x27 (fun (x29 : Int32) => mm_lt x14 (fun (x30 : Int32) => k_128 x30 x29 m28))) (fun (k_121 : Mm → Aa) => if x27 < x13 then (k_121 m26) else (if x27 = x13 then (mm_cl (fJ6_bitCount x14 m26) (fun (x31 : Int32) (m32 : Mm) => mm_cl (fJ6_bitCount x12 m32) (fun (x33 : Int32) (m34 : Mm) => if x33 ≤ x31 then (k_128 x12 x13 m34) else (k_121 m34)))) else (k_128 x12 x13 m26)))))))) else (k_128 x12 x13 m17))))
def fX6_shared (a1 : Int32) (a2 : Int32) (μ : Mm) : Aa := mm_lt (fun (m1 : Mm) => some ((-1), m1)) (fun (k_19 : Mm → Aa) => if a1 < 0 then (k_19 μ) else (if 10 < a1 then (k_19 μ) else (if a2 < 0 then (k_19 μ) else (if a2 ≤ 1 then (mm_lt 0 (fun (x2 : Int32) => mm_lt 1000000 (fun (x3 : Int32) => mm_cl (fX0_load μ) (fun (x4 : Int32) (m5 : Mm) => mm_lt 0 (fun (x6 : Int32) => mm_lt (fun (x7 : Int32) (x8 : Int32) (m9 : Mm) => mm_lt (fun (x10 : Int32) (m11 : Mm) => some (x10, m11)) (fun (k_144 : Int32 → Mm → Aa) => if a2 = 0 then (k_144 x7 m9) else (k_144 x8 m9))) (fun (k_134 : Int32 → Int32 → Mm → Aa) => mm_lk (fun (_ : Int32) (_ : Int32) (_ : Int32) (_ : Mm) => (none : Aa)) (fX6_shared_L41 a1 k_134) mm_fu x2 x3 x6 m5)))))) else (k_19 μ)))))
abbrev rX6_shared : Room := { frames := 5, cells := 0, slots := 0, locals := 110 }
set_option maxRecDepth 100000 in
set_option maxHeartbeats 8000000 in
theorem tX6_shared {l : Launch} {D : va_G} {cA : Nat → ClassId} {adr : Nat → Nat} {tt sK sV : Nat → Nat} {qv : Value} (hJ : mm_J adr NX) (a1 : Int32) (a2 : Int32) (μ : Mm) : mm_Mi l D cA adr sX NX (mm_SX (mm_A adr NX) tt sK sV qv) yX6_shared cX6_shared 7 (some .int) rX6_shared [.ref (adr 0), .int a1, .int a2] μ (fX6_shared a1 a2 μ) := by
  refine mm_entryi hJ mm_okX (by decide) (Nat.le_of_ble_eq_true rfl) ⟨rfl, rfl⟩ (fun p e s m below meth c X hr => ?_)
  generalize ([.ref (adr 0), .int a1, .int a2] : List Value).toArray = args at X ⊢
  refine gx_lv (lv' := [(0, .ref (adr 0)), (1, .int a1), (2, .int a2)]) rfl ?_
  unfold fX6_shared
  refine gx_iload_n X 0 1 1 dX6_shared_0 rfl rfl rfl ?_
  refine gx_jn (fun (k : Mm → Aa) => ∀ (m1 : Mm), mm_G p l e rX6_shared s m args below meth c 7 D cA adr sX NX (mm_Qi D cA adr sX NX) m1 19 [] [] (k m1)) ?_ (fun k_19 hk_19 => ?_)
  · intro m1
    refine gx_iconst X 19 20 (-1) dX6_shared_19 rfl ci_m1 ?_
    exact gx_iret X 20 hr dX6_shared_20
  refine gx_if_lt X 1 19 4 dX6_shared_1 rfl rfl ?_ ?_
  · refine gx_sub [] rfl ?_
    exact hk_19 μ
  refine gx_iload_n X 4 5 1 dX6_shared_4 rfl rfl rfl ?_
  refine gx_bipush X 5 7 (10) dX6_shared_5 rfl cb_10 ?_
  refine gx_icmp_gt X 7 19 10 dX6_shared_7 rfl rfl ?_ ?_
  · refine gx_sub [] rfl ?_
    exact hk_19 μ
  refine gx_iload_n X 10 11 2 dX6_shared_10 rfl rfl rfl ?_
  refine gx_if_lt X 11 19 14 dX6_shared_11 rfl rfl ?_ ?_
  · refine gx_sub [] rfl ?_
    exact hk_19 μ
  refine gx_iload_n X 14 15 2 dX6_shared_14 rfl rfl rfl ?_
  refine gx_iconst X 15 16 (1) dX6_shared_15 rfl ci_1 ?_
  refine gx_icmp_le X 16 21 19 dX6_shared_16 rfl rfl ?_ ?_
  · refine gx_iconst X 21 22 (0) dX6_shared_21 rfl ci_0 ?_
    refine gx_istore_n X 22 23 (fun x2 => [(3, .int x2), (0, .ref (adr 0)), (1, .int a1), (2, .int a2)]) dX6_shared_22 rfl rfl (by decide) (fun _ => rfl) (fun x2 => ?_)
    refine gx_ldc X 23 25 wk_X6_209 dX6_shared_23 rfl ?_
    refine gx_istore X 25 27 (fun x3 => [(4, .int x3), (3, .int x2), (0, .ref (adr 0)), (1, .int a1), (2, .int a2)]) dX6_shared_25 rfl (by decide) (fun _ => rfl) (fun x3 => ?_)
    refine gx_aload_n X 27 28 2 dX6_shared_27 rfl rfl rfl ?_
    refine gx_getR X 28 31 0 (by decide) rfl rfl fg_X6_33 dX6_shared_28 rfl ?_
    refine gx_aload_n X 31 32 2 dX6_shared_31 rfl rfl rfl ?_
    refine gx_getR X 32 35 0 (by decide) rfl rfl fg_X6_10 dX6_shared_32 rfl ?_
    refine gx_callvV X 35 38 30 (rest := []) (As := [.ref (adr 1)]) (tX0_load hJ μ) (by decide) rfl rfl wc_X0_load wl_X6_120 wi_X0_load ws_X0_load wn_X0 rfl hd_X0_load ⟨Nat.le_of_ble_eq_true rfl, Nat.le_of_ble_eq_true rfl⟩ ⟨rfl, rfl⟩ rfl rfl (Nat.le_of_ble_eq_true rfl) dX6_shared_35 rfl (fun x4 m5 => ?_)
    refine gx_iconst X 38 39 (0) dX6_shared_38 rfl ci_0 ?_
    refine gx_istore X 39 41 (fun x6 => [(5, .int x6), (4, .int x3), (3, .int x2), (0, .ref (adr 0)), (1, .int a1), (2, .int a2)]) dX6_shared_39 rfl (by decide) (fun _ => rfl) (fun x6 => ?_)
    refine gx_jn (fun (k : Int32 → Int32 → Mm → Aa) => ∀ (x7 : Int32) (x8 : Int32) (m9 : Mm), mm_G p l e rX6_shared s m args below meth c 7 D cA adr sX NX (mm_Qi D cA adr sX NX) m9 134 [(2, .int a2), (3, .int x7), (4, .int x8)] [] (k x7 x8 m9)) ?_ (fun k_134 hk_134 => ?_)
    · intro x7 x8 m9
      refine gx_iload_n X 134 135 0 dX6_shared_134 rfl rfl rfl ?_
      refine gx_jn (fun (k : Int32 → Mm → Aa) => ∀ (x10 : Int32) (m11 : Mm), mm_G p l e rX6_shared s m args below meth c 7 D cA adr sX NX (mm_Qi D cA adr sX NX) m11 144 [] [.int x10] (k x10 m11)) ?_ (fun k_144 hk_144 => ?_)
      · intro x10 m11
        exact gx_iret X 144 hr dX6_shared_144
      refine gx_if_ne X 135 142 138 dX6_shared_135 rfl rfl ?_ ?_
      · refine gx_iload X 142 144 2 dX6_shared_142 rfl rfl ?_
        refine gx_sub [] rfl ?_
        exact hk_144 x8 m9
      refine gx_iload_n X 138 139 1 dX6_shared_138 rfl rfl rfl ?_
      refine gx_goto X 139 144 dX6_shared_139 rfl ?_
      refine gx_sub [] rfl ?_
      exact hk_144 x7 m9
    refine gx_sub [3, 4, 5, 2, 1, 0] rfl ?_
    refine mm_lk_ind (fun (rec : Int32 → Int32 → Int32 → Mm → Aa) => ∀ (x12 : Int32) (x13 : Int32) (x14 : Int32) (m15 : Mm), mm_G p l e rX6_shared s m args below meth c 7 D cA adr sX NX (mm_Qi D cA adr sX NX) m15 41 [(0, .ref (adr 0)), (1, .int a1), (2, .int a2), (3, .int x12), (4, .int x13), (5, .int x14)] [] (rec x12 x13 x14 m15)) (fun _ _ _ _ => gx_none) (fun rec_41 hr_41 x12 x13 x14 m15 => ?_) mm_fu x2 x3 x6 m5
    unfold fX6_shared_L41
    refine gx_iload X 41 43 5 dX6_shared_41 rfl rfl ?_
    refine gx_iconst X 43 44 (1) dX6_shared_43 rfl ci_1 ?_
    refine gx_aload_n X 44 45 0 dX6_shared_44 rfl rfl rfl ?_
    refine gx_getR X 45 48 0 (by decide) rfl rfl fg_X6_10 dX6_shared_45 rfl ?_
    refine gx_getI X 48 51 1 (by decide) rfl rfl fg_X6_80 dX6_shared_48 rfl ?_
    refine gx_ishl X 51 52 dX6_shared_51 rfl ?_
    refine gx_icmp_ge X 52 134 55 dX6_shared_52 rfl rfl ?_ ?_
    · refine gx_sub [2, 3, 4] rfl ?_
      exact hk_134 x12 x13 m15
    refine gx_iload X 55 57 5 dX6_shared_55 rfl rfl ?_
    refine gx_calliS X 57 60 (rest := []) (As := [.int x14]) (tJ6_bitCount hJ x14 m15) wc_J6_bitCount_0f7a4 wl_X6_213 wt_J6_bitCount_0f7a4 wn_J6 hd_J6_bitCount_0f7a4 ⟨Nat.le_of_ble_eq_true rfl, Nat.le_of_ble_eq_true rfl⟩ ⟨rfl, rfl⟩ rfl rfl (Nat.le_of_ble_eq_true rfl) dX6_shared_57 rfl (fun x16 m17 => ?_)
    refine gx_iload_n X 60 61 1 dX6_shared_60 rfl rfl rfl ?_
    refine gx_jn (fun (k : Int32 → Int32 → Mm → Aa) => ∀ (x18 : Int32) (x19 : Int32) (m20 : Mm), mm_G p l e rX6_shared s m args below meth c 7 D cA adr sX NX (mm_Qi D cA adr sX NX) m20 128 [(0, .ref (adr 0)), (1, .int a1), (2, .int a2), (3, .int x18), (4, .int x19), (5, .int x14)] [] (k x18 x19 m20)) ?_ (fun k_128 hk_128 => ?_)
    · intro x18 x19 m20
      refine gx_iinc X 128 131 5 (1) (fun x21 => [(5, .int x21), (0, .ref (adr 0)), (1, .int a1), (2, .int a2), (3, .int x18), (4, .int x19)]) dX6_shared_128 rfl rfl ci_1 (by decide) (fun _ => rfl) (fun x21 => ?_)
      refine gx_goto X 131 41 dX6_shared_131 rfl ?_
      refine gx_sub [1, 2, 3, 4, 5, 0] rfl ?_
      exact hr_41 x18 x19 x21 m20
    refine gx_icmp_le X 61 67 64 dX6_shared_61 rfl rfl ?_ ?_
    · refine gx_aload_n X 67 68 0 dX6_shared_67 rfl rfl rfl ?_
      refine gx_getR X 68 71 0 (by decide) rfl rfl fg_X6_33 dX6_shared_68 rfl ?_
      refine gx_iload X 71 73 5 dX6_shared_71 rfl rfl ?_
      refine gx_putI X 73 76 30 (by decide) rfl rfl fp_X6_218 dX6_shared_73 rfl (fun m22 => ?_)
      refine gx_aload_n X 76 77 0 dX6_shared_76 rfl rfl rfl ?_
      refine gx_getR X 77 80 0 (by decide) rfl rfl fg_X6_33 dX6_shared_77 rfl ?_
      refine gx_sipush X 80 83 (999) dX6_shared_80 rfl cs_999 ?_
      refine gx_callvV X 83 86 30 (rest := []) (As := [.int 999]) (tX0_run hJ 999 m22) (by decide) rfl rfl wc_X0_run wl_X6_124 wi_X0_run ws_X0_run wn_X0 rfl hd_X0_run ⟨Nat.le_of_ble_eq_true rfl, Nat.le_of_ble_eq_true rfl⟩ ⟨rfl, rfl⟩ rfl rfl (Nat.le_of_ble_eq_true rfl) dX6_shared_83 rfl (fun x23 m24 => ?_)
      refine gx_aload_n X 86 87 0 dX6_shared_86 rfl rfl rfl ?_
      refine gx_getR X 87 90 0 (by decide) rfl rfl fg_X6_33 dX6_shared_87 rfl ?_
      refine gx_calliV X 90 93 30 (rest := []) (As := []) (tX0_sumOfOver hJ m24) (by decide) rfl rfl wc_X0_sumOfOver wl_X6_170 wi_X0_sumOfOver ws_X0_sumOfOver wn_X0 rfl hd_X0_sumOfOver ⟨Nat.le_of_ble_eq_true rfl, Nat.le_of_ble_eq_true rfl⟩ ⟨rfl, rfl⟩ rfl rfl (Nat.le_of_ble_eq_true rfl) dX6_shared_90 rfl (fun x25 m26 => ?_)
      refine gx_istore X 93 95 (fun x27 => [(6, .int x27), (0, .ref (adr 0)), (1, .int a1), (2, .int a2), (3, .int x12), (4, .int x13), (5, .int x14)]) dX6_shared_93 rfl (by decide) (fun _ => rfl) (fun x27 => ?_)
      refine gx_iload X 95 97 0 dX6_shared_95 rfl rfl ?_
      refine gx_iload X 97 99 5 dX6_shared_97 rfl rfl ?_
      refine gx_jn (fun (k : Mm → Aa) => ∀ (m28 : Mm), mm_G p l e rX6_shared s m args below meth c 7 D cA adr sX NX (mm_Qi D cA adr sX NX) m28 121 [(0, .ref (adr 0)), (1, .int a1), (2, .int a2), (5, .int x14), (6, .int x27)] [] (k m28)) ?_ (fun k_121 hk_121 => ?_)
      · intro m28
        refine gx_iload X 121 123 4 dX6_shared_121 rfl rfl ?_
        refine gx_istore X 123 125 (fun x29 => [(4, .int x29), (0, .ref (adr 0)), (1, .int a1), (2, .int a2), (5, .int x14), (6, .int x27)]) dX6_shared_123 rfl (by decide) (fun _ => rfl) (fun x29 => ?_)
        refine gx_iload X 125 127 4 dX6_shared_125 rfl rfl ?_
        refine gx_istore_n X 127 128 (fun x30 => [(3, .int x30), (4, .int x29), (0, .ref (adr 0)), (1, .int a1), (2, .int a2), (5, .int x14), (6, .int x27)]) dX6_shared_127 rfl rfl (by decide) (fun _ => rfl) (fun x30 => ?_)
        refine gx_sub [2, 3, 4, 0, 1, 5] rfl ?_
        exact hk_128 x30 x29 m28
      refine gx_icmp_lt X 99 121 102 dX6_shared_99 rfl rfl ?_ ?_
      · refine gx_sub [1, 2, 3, 6, 0] rfl ?_
        exact hk_121 m26
      refine gx_iload X 102 104 0 dX6_shared_102 rfl rfl ?_
      refine gx_iload X 104 106 5 dX6_shared_104 rfl rfl ?_
      refine gx_icmp_ne X 106 128 109 dX6_shared_106 rfl rfl ?_ ?_
      · refine gx_sub [1, 2, 3, 4, 5, 6] rfl ?_
        exact hk_128 x12 x13 m26
      refine gx_iload X 109 111 6 dX6_shared_109 rfl rfl ?_
      refine gx_calliS X 111 114 (rest := []) (As := [.int x14]) (tJ6_bitCount hJ x14 m26) wc_J6_bitCount_0f7a4 wl_X6_213 wt_J6_bitCount_0f7a4 wn_J6 hd_J6_bitCount_0f7a4 ⟨Nat.le_of_ble_eq_true rfl, Nat.le_of_ble_eq_true rfl⟩ ⟨rfl, rfl⟩ rfl rfl (Nat.le_of_ble_eq_true rfl) dX6_shared_111 rfl (fun x31 m32 => ?_)
      refine gx_iload_n X 114 115 4 dX6_shared_114 rfl rfl rfl ?_
      refine gx_calliS X 115 118 (rest := [.int x31]) (As := [.int x12]) (tJ6_bitCount hJ x12 m32) wc_J6_bitCount_0f7a4 wl_X6_213 wt_J6_bitCount_0f7a4 wn_J6 hd_J6_bitCount_0f7a4 ⟨Nat.le_of_ble_eq_true rfl, Nat.le_of_ble_eq_true rfl⟩ ⟨rfl, rfl⟩ rfl rfl (Nat.le_of_ble_eq_true rfl) dX6_shared_115 rfl (fun x33 m34 => ?_)
      refine gx_icmp_ge X 118 128 121 dX6_shared_118 rfl rfl ?_ ?_
      · refine gx_sub [1, 2, 3, 4, 5, 6] rfl ?_
        exact hk_128 x12 x13 m34
      refine gx_sub [1, 2, 3, 6, 0] rfl ?_
      exact hk_121 m34
    refine gx_goto X 64 128 dX6_shared_64 rfl ?_
    exact hk_128 x12 x13 m17
  refine gx_sub [] rfl ?_
  exact hk_19 μ
