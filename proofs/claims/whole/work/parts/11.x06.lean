def fX6_sumIfHeld (a1 : Int32) (a2 : Int32) (μ : Mm) : Aa := mm_cl (fX0_load μ) (fun (x1 : Int32) (m2 : Mm) => mm_ck a1 10 (mm_lt (mm_wr m2 ((34 + a1.toNatClampNeg)) 7 (1 <<< (a2 &&& 31))) (fun (m4 : Mm) => mm_cl (fX0_run 999 m4) (fun (x5 : Int32) (m6 : Mm) => mm_cl (fX0_sumOfOver m6) (fun (x7 : Int32) (m8 : Mm) => some (x7, m8))))))
abbrev rX6_sumIfHeld : Room := { frames := 5, cells := 0, slots := 0, locals := 110 }
set_option maxRecDepth 100000 in
set_option maxHeartbeats 8000000 in
theorem tX6_sumIfHeld {l : Launch} {D : va_G} {cA : Nat → ClassId} {adr : Nat → Nat} {tt sK sV : Nat → Nat} {qv : Value} (hJ : mm_J adr NX) (a1 : Int32) (a2 : Int32) (μ : Mm) : mm_Mi l D cA adr sX NX (mm_SX (mm_A adr NX) tt sK sV qv) yX6_sumIfHeld cX6_sumIfHeld 3 (some .int) rX6_sumIfHeld [.ref (adr 0), .int a1, .int a2] μ (fX6_sumIfHeld a1 a2 μ) := by
  refine mm_entryi hJ mm_okX (by decide) (Nat.le_of_ble_eq_true rfl) ⟨rfl, rfl⟩ (fun p e s m below meth c X hr => ?_)
  generalize ([.ref (adr 0), .int a1, .int a2] : List Value).toArray = args at X ⊢
  refine gx_lv (lv' := [(0, .ref (adr 0)), (1, .int a1), (2, .int a2)]) rfl ?_
  unfold fX6_sumIfHeld
  refine gx_aload_n X 0 1 0 dX6_sumIfHeld_0 rfl rfl rfl ?_
  refine gx_getR X 1 4 0 (by decide) rfl rfl fg_X6_33 dX6_sumIfHeld_1 rfl ?_
  refine gx_aload_n X 4 5 0 dX6_sumIfHeld_4 rfl rfl rfl ?_
  refine gx_getR X 5 8 0 (by decide) rfl rfl fg_X6_10 dX6_sumIfHeld_5 rfl ?_
  refine gx_callvV X 8 11 30 (rest := []) (As := [.ref (adr 1)]) (tX0_load hJ μ) (by decide) rfl rfl wc_X0_load wl_X6_120 wi_X0_load ws_X0_load wn_X0 rfl hd_X0_load ⟨Nat.le_of_ble_eq_true rfl, Nat.le_of_ble_eq_true rfl⟩ ⟨rfl, rfl⟩ rfl rfl (Nat.le_of_ble_eq_true rfl) dX6_sumIfHeld_8 rfl (fun x1 m2 => ?_)
  refine gx_aload_n X 11 12 0 dX6_sumIfHeld_11 rfl rfl rfl ?_
  refine gx_getR X 12 15 0 (by decide) rfl rfl fg_X6_33 dX6_sumIfHeld_12 rfl ?_
  refine gx_getR X 15 18 30 (by decide) rfl rfl fg_X6_127 dX6_sumIfHeld_15 rfl ?_
  refine gx_iload_n X 18 19 1 dX6_sumIfHeld_18 rfl rfl rfl ?_
  refine gx_aaload X 19 20 31 (by decide) rfl rfl rfl dX6_sumIfHeld_19 rfl (fun h3 => ?_)
  refine gx_iconst X 20 21 (1) dX6_sumIfHeld_20 rfl ci_1 ?_
  refine gx_iload_n X 21 22 2 dX6_sumIfHeld_21 rfl rfl rfl ?_
  refine gx_ishl X 22 23 dX6_sumIfHeld_22 rfl ?_
  refine gx_putI X 23 26 ((34 + a1.toNatClampNeg)) (sX_wl h3) (sX_w h3) rfl fp_X6_251 dX6_sumIfHeld_23 rfl (fun m4 => ?_)
  refine gx_aload_n X 26 27 0 dX6_sumIfHeld_26 rfl rfl rfl ?_
  refine gx_getR X 27 30 0 (by decide) rfl rfl fg_X6_33 dX6_sumIfHeld_27 rfl ?_
  refine gx_sipush X 30 33 (999) dX6_sumIfHeld_30 rfl cs_999 ?_
  refine gx_callvV X 33 36 30 (rest := []) (As := [.int 999]) (tX0_run hJ 999 m4) (by decide) rfl rfl wc_X0_run wl_X6_124 wi_X0_run ws_X0_run wn_X0 rfl hd_X0_run ⟨Nat.le_of_ble_eq_true rfl, Nat.le_of_ble_eq_true rfl⟩ ⟨rfl, rfl⟩ rfl rfl (Nat.le_of_ble_eq_true rfl) dX6_sumIfHeld_33 rfl (fun x5 m6 => ?_)
  refine gx_aload_n X 36 37 0 dX6_sumIfHeld_36 rfl rfl rfl ?_
  refine gx_getR X 37 40 0 (by decide) rfl rfl fg_X6_33 dX6_sumIfHeld_37 rfl ?_
  refine gx_calliV X 40 43 30 (rest := []) (As := []) (tX0_sumOfOver hJ m6) (by decide) rfl rfl wc_X0_sumOfOver wl_X6_170 wi_X0_sumOfOver ws_X0_sumOfOver wn_X0 rfl hd_X0_sumOfOver ⟨Nat.le_of_ble_eq_true rfl, Nat.le_of_ble_eq_true rfl⟩ ⟨rfl, rfl⟩ rfl rfl (Nat.le_of_ble_eq_true rfl) dX6_sumIfHeld_40 rfl (fun x7 m8 => ?_)
  exact gx_iret X 43 hr dX6_sumIfHeld_43
def fX6_refusedRow (a1 : Int32) (a2 : Int32) (a3 : Int32) (a4 : Int32) (μ : Mm) : Aa := mm_cl (fX6_isWithin a1 4 μ) (fun (x1 : Int32) (m2 : Mm) => mm_lt (fun (m3 : Mm) => some ((-1), m3)) (fun (k_17 : Mm → Aa) => if x1 = 0 then (k_17 m2) else (if a2 < 0 then (k_17 m2) else (if a2 ≤ 2 then (mm_ck a1 4 (if (m2 ((49 + a1.toNatClampNeg)) 0) = ((-1)) then (some ((-11), m2)) else (if (m2 ((49 + a1.toNatClampNeg)) 0) = a2 then (mm_lt (fun (x5 : Int32) (m6 : Mm) => some (x5, m6)) (fun (k_73 : Int32 → Mm → Aa) => mm_lt (fun (m7 : Mm) => k_73 ((-13)) m7) (fun (k_67 : Mm → Aa) => if a3 < 0 then (k_67 m2) else (if a3 ≤ ((m2 ((49 + a1.toNatClampNeg)) 1) - a4) then (k_73 0 m2) else (k_67 m2))))) else (some ((-12), m2))))) else (k_17 m2)))))
abbrev rX6_refusedRow : Room := { frames := 1, cells := 0, slots := 0, locals := 21 }
set_option maxRecDepth 100000 in
set_option maxHeartbeats 8000000 in
theorem tX6_refusedRow {l : Launch} {D : va_G} {cA : Nat → ClassId} {adr : Nat → Nat} {tt sK sV : Nat → Nat} {qv : Value} (hJ : mm_J adr NX) (a1 : Int32) (a2 : Int32) (a3 : Int32) (a4 : Int32) (μ : Mm) : mm_Mi l D cA adr sX NX (mm_SX (mm_A adr NX) tt sK sV qv) yX6_refusedRow cX6_refusedRow 6 (some .int) rX6_refusedRow [.ref (adr 0), .int a1, .int a2, .int a3, .int a4] μ (fX6_refusedRow a1 a2 a3 a4 μ) := by
  refine mm_entryi hJ mm_okX (by decide) (Nat.le_of_ble_eq_true rfl) ⟨rfl, rfl⟩ (fun p e s m below meth c X hr => ?_)
  generalize ([.ref (adr 0), .int a1, .int a2, .int a3, .int a4] : List Value).toArray = args at X ⊢
  refine gx_lv (lv' := [(0, .ref (adr 0)), (1, .int a1), (2, .int a2), (3, .int a3), (4, .int a4)]) rfl ?_
  unfold fX6_refusedRow
  refine gx_iload_n X 0 1 1 dX6_refusedRow_0 rfl rfl rfl ?_
  refine gx_iconst X 1 2 (4) dX6_refusedRow_1 rfl ci_4 ?_
  refine gx_calliS X 2 5 (rest := []) (As := [.int a1, .int 4]) (tX6_isWithin hJ a1 4 μ) wc_X6_isWithin wl_X6_55 wt_X6_isWithin wn_X6 hd_X6_isWithin ⟨Nat.le_of_ble_eq_true rfl, Nat.le_of_ble_eq_true rfl⟩ ⟨rfl, rfl⟩ rfl rfl (Nat.le_of_ble_eq_true rfl) dX6_refusedRow_2 rfl (fun x1 m2 => ?_)
  refine gx_jn (fun (k : Mm → Aa) => ∀ (m3 : Mm), mm_G p l e rX6_refusedRow s m args below meth c 6 D cA adr sX NX (mm_Qi D cA adr sX NX) m3 17 [] [] (k m3)) ?_ (fun k_17 hk_17 => ?_)
  · intro m3
    refine gx_iconst X 17 18 (-1) dX6_refusedRow_17 rfl ci_m1 ?_
    exact gx_iret X 18 hr dX6_refusedRow_18
  refine gx_if_eq X 5 17 8 dX6_refusedRow_5 rfl rfl ?_ ?_
  · refine gx_sub [] rfl ?_
    exact hk_17 m2
  refine gx_iload_n X 8 9 2 dX6_refusedRow_8 rfl rfl rfl ?_
  refine gx_if_lt X 9 17 12 dX6_refusedRow_9 rfl rfl ?_ ?_
  · refine gx_sub [] rfl ?_
    exact hk_17 m2
  refine gx_iload_n X 12 13 2 dX6_refusedRow_12 rfl rfl rfl ?_
  refine gx_iconst X 13 14 (2) dX6_refusedRow_13 rfl ci_2 ?_
  refine gx_icmp_le X 14 19 17 dX6_refusedRow_14 rfl rfl ?_ ?_
  · refine gx_aload_n X 19 20 0 dX6_refusedRow_19 rfl rfl rfl ?_
    refine gx_getR X 20 23 0 (by decide) rfl rfl fg_X6_46 dX6_refusedRow_20 rfl ?_
    refine gx_iload_n X 23 24 1 dX6_refusedRow_23 rfl rfl rfl ?_
    refine gx_aaload X 24 25 48 (by decide) rfl rfl rfl dX6_refusedRow_24 rfl (fun h4 => ?_)
    refine gx_astore X 25 27 [(5, .ref (adr ((49 + a1.toNatClampNeg)))), (0, .ref (adr 0)), (1, .int a1), (2, .int a2), (3, .int a3), (4, .int a4)] dX6_refusedRow_25 rfl (by decide) rfl ?_
    refine gx_aload X 27 29 0 dX6_refusedRow_27 rfl rfl ?_
    refine gx_getI X 29 32 ((49 + a1.toNatClampNeg)) (sX_sl h4) (sX_s h4) rfl fg_X6_245 dX6_refusedRow_29 rfl ?_
    refine gx_iconst X 32 33 (-1) dX6_refusedRow_32 rfl ci_m1 ?_
    refine gx_icmp_ne X 33 39 36 dX6_refusedRow_33 rfl rfl ?_ ?_
    · refine gx_aload X 39 41 0 dX6_refusedRow_39 rfl rfl ?_
      refine gx_getI X 41 44 ((49 + a1.toNatClampNeg)) (sX_sl h4) (sX_s h4) rfl fg_X6_245 dX6_refusedRow_41 rfl ?_
      refine gx_iload_n X 44 45 3 dX6_refusedRow_44 rfl rfl rfl ?_
      refine gx_icmp_eq X 45 51 48 dX6_refusedRow_45 rfl rfl ?_ ?_
      · refine gx_iload_n X 51 52 4 dX6_refusedRow_51 rfl rfl rfl ?_
        refine gx_jn (fun (k : Int32 → Mm → Aa) => ∀ (x5 : Int32) (m6 : Mm), mm_G p l e rX6_refusedRow s m args below meth c 6 D cA adr sX NX (mm_Qi D cA adr sX NX) m6 73 [] [.int x5] (k x5 m6)) ?_ (fun k_73 hk_73 => ?_)
        · intro x5 m6
          exact gx_iret X 73 hr dX6_refusedRow_73
        refine gx_jn (fun (k : Mm → Aa) => ∀ (m7 : Mm), mm_G p l e rX6_refusedRow s m args below meth c 6 D cA adr sX NX (mm_Qi D cA adr sX NX) m7 67 [] [] (k m7)) ?_ (fun k_67 hk_67 => ?_)
        · intro m7
          refine gx_bipush X 67 69 (-13) dX6_refusedRow_67 rfl cb_m13 ?_
          refine gx_goto X 69 73 dX6_refusedRow_69 rfl ?_
          exact hk_73 ((-13)) m7
        refine gx_if_lt X 52 67 55 dX6_refusedRow_52 rfl rfl ?_ ?_
        · refine gx_sub [] rfl ?_
          exact hk_67 m2
        refine gx_iload_n X 55 56 4 dX6_refusedRow_55 rfl rfl rfl ?_
        refine gx_aload X 56 58 0 dX6_refusedRow_56 rfl rfl ?_
        refine gx_getI X 58 61 ((49 + a1.toNatClampNeg)) (sX_sl h4) (sX_s h4) rfl fg_X6_248 dX6_refusedRow_58 rfl ?_
        refine gx_iload X 61 63 5 dX6_refusedRow_61 rfl rfl ?_
        refine gx_isub X 63 64 dX6_refusedRow_63 rfl ?_
        refine gx_icmp_le X 64 72 67 dX6_refusedRow_64 rfl rfl ?_ ?_
        · refine gx_iconst X 72 73 (0) dX6_refusedRow_72 rfl ci_0 ?_
          refine gx_sub [] rfl ?_
          exact hk_73 0 m2
        refine gx_sub [] rfl ?_
        exact hk_67 m2
      refine gx_bipush X 48 50 (-12) dX6_refusedRow_48 rfl cb_m12 ?_
      exact gx_iret X 50 hr dX6_refusedRow_50
    refine gx_bipush X 36 38 (-11) dX6_refusedRow_36 rfl cb_m11 ?_
    exact gx_iret X 38 hr dX6_refusedRow_38
  refine gx_sub [] rfl ?_
  exact hk_17 m2
def fX6_planks (a1 : Int32) (μ : Mm) : Aa := mm_lt (fun (m1 : Mm) => some ((-1), m1)) (fun (k_12 : Mm → Aa) => if a1 < 1 then (k_12 μ) else (if a1 ≤ 400 then (mm_lt (μ 1 0) (fun (x2 : Int32) => mm_lt (mm_wr μ 1 0 a1) (fun (m3 : Mm) => some (x2, m3)))) else (k_12 μ)))
abbrev rX6_planks : Room := { frames := 0, cells := 0, slots := 0, locals := 0 }
set_option maxRecDepth 100000 in
set_option maxHeartbeats 8000000 in
theorem tX6_planks {l : Launch} {D : va_G} {cA : Nat → ClassId} {adr : Nat → Nat} {tt sK sV : Nat → Nat} {qv : Value} (hJ : mm_J adr NX) (a1 : Int32) (μ : Mm) : mm_Mi l D cA adr sX NX (mm_SX (mm_A adr NX) tt sK sV qv) yX6_planks cX6_planks 3 (some .int) rX6_planks [.ref (adr 0), .int a1] μ (fX6_planks a1 μ) := by
  refine mm_entryi hJ mm_okX (by decide) (Nat.le_of_ble_eq_true rfl) ⟨rfl, rfl⟩ (fun p e s m below meth c X hr => ?_)
  generalize ([.ref (adr 0), .int a1] : List Value).toArray = args at X ⊢
  refine gx_lv (lv' := [(0, .ref (adr 0)), (1, .int a1)]) rfl ?_
  unfold fX6_planks
  refine gx_iload_n X 0 1 1 dX6_planks_0 rfl rfl rfl ?_
  refine gx_iconst X 1 2 (1) dX6_planks_1 rfl ci_1 ?_
  refine gx_jn (fun (k : Mm → Aa) => ∀ (m1 : Mm), mm_G p l e rX6_planks s m args below meth c 3 D cA adr sX NX (mm_Qi D cA adr sX NX) m1 12 [] [] (k m1)) ?_ (fun k_12 hk_12 => ?_)
  · intro m1
    refine gx_iconst X 12 13 (-1) dX6_planks_12 rfl ci_m1 ?_
    exact gx_iret X 13 hr dX6_planks_13
  refine gx_icmp_lt X 2 12 5 dX6_planks_2 rfl rfl ?_ ?_
  · refine gx_sub [] rfl ?_
    exact hk_12 μ
  refine gx_iload_n X 5 6 1 dX6_planks_5 rfl rfl rfl ?_
  refine gx_sipush X 6 9 (400) dX6_planks_6 rfl cs_400 ?_
  refine gx_icmp_le X 9 14 12 dX6_planks_9 rfl rfl ?_ ?_
  · refine gx_aload_n X 14 15 0 dX6_planks_14 rfl rfl rfl ?_
    refine gx_getR X 15 18 0 (by decide) rfl rfl fg_X6_10 dX6_planks_15 rfl ?_
    refine gx_getI X 18 21 1 (by decide) rfl rfl fg_X6_51 dX6_planks_18 rfl ?_
    refine gx_istore_n X 21 22 (fun x2 => [(2, .int x2), (0, .ref (adr 0)), (1, .int a1)]) dX6_planks_21 rfl rfl (by decide) (fun _ => rfl) (fun x2 => ?_)
    refine gx_aload_n X 22 23 1 dX6_planks_22 rfl rfl rfl ?_
    refine gx_getR X 23 26 0 (by decide) rfl rfl fg_X6_10 dX6_planks_23 rfl ?_
    refine gx_iload_n X 26 27 2 dX6_planks_26 rfl rfl rfl ?_
    refine gx_putI X 27 30 1 (by decide) rfl rfl fp_X6_51 dX6_planks_27 rfl (fun m3 => ?_)
    refine gx_iload_n X 30 31 0 dX6_planks_30 rfl rfl rfl ?_
    exact gx_iret X 31 hr dX6_planks_31
  refine gx_sub [] rfl ?_
  exact hk_12 μ
def fX6_rule (a1 : Int32) (a2 : Int32) (μ : Mm) : Aa := mm_cl (fX6_isWithin a1 6 μ) (fun (x1 : Int32) (m2 : Mm) => mm_lt (fun (m3 : Mm) => some ((-1), m3)) (fun (k_27 : Mm → Aa) => if x1 = 0 then (k_27 m2) else (mm_ck a1 6 (if a2 < ((mm_stV 1).getD a1.toNatClampNeg 0) then (k_27 m2) else (mm_ck a1 6 (if a2 ≤ ((mm_stV 2).getD a1.toNatClampNeg 0) then (mm_ck a1 6 (mm_lt (m2 2 a1.toNatClampNeg) (fun (x4 : Int32) => mm_ck a1 6 (mm_lt (mm_wr m2 2 a1.toNatClampNeg a2) (fun (m5 : Mm) => some (x4, m5)))))) else (k_27 m2)))))))
abbrev rX6_rule : Room := { frames := 1, cells := 0, slots := 0, locals := 21 }
set_option maxRecDepth 100000 in
set_option maxHeartbeats 8000000 in
theorem tX6_rule {l : Launch} {D : va_G} {cA : Nat → ClassId} {adr : Nat → Nat} {tt sK sV : Nat → Nat} {qv : Value} (hJ : mm_J adr NX) (a1 : Int32) (a2 : Int32) (μ : Mm) : mm_Mi l D cA adr sX NX (mm_SX (mm_A adr NX) tt sK sV qv) yX6_rule cX6_rule 4 (some .int) rX6_rule [.ref (adr 0), .int a1, .int a2] μ (fX6_rule a1 a2 μ) := by
  refine mm_entryi hJ mm_okX (by decide) (Nat.le_of_ble_eq_true rfl) ⟨rfl, rfl⟩ (fun p e s m below meth c X hr => ?_)
  generalize ([.ref (adr 0), .int a1, .int a2] : List Value).toArray = args at X ⊢
  refine gx_lv (lv' := [(0, .ref (adr 0)), (1, .int a1), (2, .int a2)]) rfl ?_
  unfold fX6_rule
  refine gx_iload_n X 0 1 1 dX6_rule_0 rfl rfl rfl ?_
  refine gx_bipush X 1 3 (6) dX6_rule_1 rfl cb_6 ?_
  refine gx_calliS X 3 6 (rest := []) (As := [.int a1, .int 6]) (tX6_isWithin hJ a1 6 μ) wc_X6_isWithin wl_X6_55 wt_X6_isWithin wn_X6 hd_X6_isWithin ⟨Nat.le_of_ble_eq_true rfl, Nat.le_of_ble_eq_true rfl⟩ ⟨rfl, rfl⟩ rfl rfl (Nat.le_of_ble_eq_true rfl) dX6_rule_3 rfl (fun x1 m2 => ?_)
  refine gx_jn (fun (k : Mm → Aa) => ∀ (m3 : Mm), mm_G p l e rX6_rule s m args below meth c 4 D cA adr sX NX (mm_Qi D cA adr sX NX) m3 27 [] [] (k m3)) ?_ (fun k_27 hk_27 => ?_)
  · intro m3
    refine gx_iconst X 27 28 (-1) dX6_rule_27 rfl ci_m1 ?_
    exact gx_iret X 28 hr dX6_rule_28
  refine gx_if_eq X 6 27 9 dX6_rule_6 rfl rfl ?_ ?_
  · refine gx_sub [] rfl ?_
    exact hk_27 m2
  refine gx_iload_n X 9 10 2 dX6_rule_9 rfl rfl rfl ?_
  refine gx_getS X 10 13 1 (by decide) wf_X6_59 dX6_rule_10 rfl ?_
  refine gx_iload_n X 13 14 1 dX6_rule_13 rfl rfl rfl ?_
  refine gx_sload X 14 15 1 (by decide) rfl dX6_rule_14 rfl ?_
  refine gx_icmp_lt X 15 27 18 dX6_rule_15 rfl rfl ?_ ?_
  · refine gx_sub [] rfl ?_
    exact hk_27 m2
  refine gx_iload_n X 18 19 2 dX6_rule_18 rfl rfl rfl ?_
  refine gx_getS X 19 22 2 (by decide) wf_X6_62 dX6_rule_19 rfl ?_
  refine gx_iload_n X 22 23 1 dX6_rule_22 rfl rfl rfl ?_
  refine gx_sload X 23 24 2 (by decide) rfl dX6_rule_23 rfl ?_
  refine gx_icmp_le X 24 29 27 dX6_rule_24 rfl rfl ?_ ?_
  · refine gx_aload_n X 29 30 0 dX6_rule_29 rfl rfl rfl ?_
    refine gx_getR X 30 33 0 (by decide) rfl rfl fg_X6_10 dX6_rule_30 rfl ?_
    refine gx_getR X 33 36 1 (by decide) rfl rfl fg_X6_65 dX6_rule_33 rfl ?_
    refine gx_iload_n X 36 37 1 dX6_rule_36 rfl rfl rfl ?_
    refine gx_iaload X 37 38 2 (by decide) rfl dX6_rule_37 rfl ?_
    refine gx_istore_n X 38 39 (fun x4 => [(3, .int x4), (0, .ref (adr 0)), (1, .int a1), (2, .int a2)]) dX6_rule_38 rfl rfl (by decide) (fun _ => rfl) (fun x4 => ?_)
    refine gx_aload_n X 39 40 1 dX6_rule_39 rfl rfl rfl ?_
    refine gx_getR X 40 43 0 (by decide) rfl rfl fg_X6_10 dX6_rule_40 rfl ?_
    refine gx_getR X 43 46 1 (by decide) rfl rfl fg_X6_65 dX6_rule_43 rfl ?_
    refine gx_iload_n X 46 47 2 dX6_rule_46 rfl rfl rfl ?_
    refine gx_iload_n X 47 48 3 dX6_rule_47 rfl rfl rfl ?_
    refine gx_iastore X 48 49 2 (by decide) rfl dX6_rule_48 rfl (fun m5 => ?_)
    refine gx_iload_n X 49 50 0 dX6_rule_49 rfl rfl rfl ?_
    exact gx_iret X 50 hr dX6_rule_50
  refine gx_sub [] rfl ?_
  exact hk_27 m2
def fX6_person (a1 : Int32) (a2 : Int32) (a3 : Int32) (a4 : Int32) (a5 : Int32) (μ : Mm) : Aa := mm_ck 0 30 (mm_lt (mm_wr μ 29 (0 : Int32).toNatClampNeg a1) (fun (m1 : Mm) => mm_ck 1 30 (mm_lt (mm_wr m1 29 (1 : Int32).toNatClampNeg a2) (fun (m2 : Mm) => mm_ck 2 30 (mm_lt (mm_wr m2 29 (2 : Int32).toNatClampNeg a3) (fun (m3 : Mm) => mm_ck 3 30 (mm_lt (mm_wr m3 29 (3 : Int32).toNatClampNeg a4) (fun (m4 : Mm) => mm_ck 4 30 (mm_lt (mm_wr m4 29 (4 : Int32).toNatClampNeg a5) (fun (m5 : Mm) => mm_cl (fX3_mayCome 29 30 0 m5) (fun (x6 : Int32) (m7 : Mm) => if x6 = 0 then (some ((-1), m7)) else (mm_cl (fX3_hasRoom 1 m7) (fun (x8 : Int32) (m9 : Mm) => if x8 = 0 then (some ((-3), m9)) else (mm_cl (fX3_enlist 29 30 0 m9) (fun (x10 : Int32) (m11 : Mm) => some ((m11 1 1) - 1, m11))))))))))))))))
abbrev rX6_person : Room := { frames := 2, cells := 0, slots := 0, locals := 48 }
set_option maxRecDepth 100000 in
set_option maxHeartbeats 8000000 in
theorem tX6_person {l : Launch} {D : va_G} {cA : Nat → ClassId} {adr : Nat → Nat} {tt sK sV : Nat → Nat} {qv : Value} (hJ : mm_J adr NX) (a1 : Int32) (a2 : Int32) (a3 : Int32) (a4 : Int32) (a5 : Int32) (μ : Mm) : mm_Mi l D cA adr sX NX (mm_SX (mm_A adr NX) tt sK sV qv) yX6_person cX6_person 6 (some .int) rX6_person [.ref (adr 0), .int a1, .int a2, .int a3, .int a4, .int a5] μ (fX6_person a1 a2 a3 a4 a5 μ) := by
  refine mm_entryi hJ mm_okX (by decide) (Nat.le_of_ble_eq_true rfl) ⟨rfl, rfl⟩ (fun p e s m below meth c X hr => ?_)
  generalize ([.ref (adr 0), .int a1, .int a2, .int a3, .int a4, .int a5] : List Value).toArray = args at X ⊢
  refine gx_lv (lv' := [(0, .ref (adr 0)), (1, .int a1), (2, .int a2), (3, .int a3), (4, .int a4), (5, .int a5)]) rfl ?_
  unfold fX6_person
  refine gx_aload_n X 0 1 0 dX6_person_0 rfl rfl rfl ?_
  refine gx_getR X 1 4 0 (by decide) rfl rfl fg_X6_26 dX6_person_1 rfl ?_
  refine gx_iconst X 4 5 (0) dX6_person_4 rfl ci_0 ?_
  refine gx_iload_n X 5 6 1 dX6_person_5 rfl rfl rfl ?_
  refine gx_iastore X 6 7 29 (by decide) rfl dX6_person_6 rfl (fun m1 => ?_)
  refine gx_aload_n X 7 8 0 dX6_person_7 rfl rfl rfl ?_
  refine gx_getR X 8 11 0 (by decide) rfl rfl fg_X6_26 dX6_person_8 rfl ?_
  refine gx_iconst X 11 12 (1) dX6_person_11 rfl ci_1 ?_
  refine gx_iload_n X 12 13 2 dX6_person_12 rfl rfl rfl ?_
  refine gx_iastore X 13 14 29 (by decide) rfl dX6_person_13 rfl (fun m2 => ?_)
  refine gx_aload_n X 14 15 0 dX6_person_14 rfl rfl rfl ?_
  refine gx_getR X 15 18 0 (by decide) rfl rfl fg_X6_26 dX6_person_15 rfl ?_
  refine gx_iconst X 18 19 (2) dX6_person_18 rfl ci_2 ?_
  refine gx_iload_n X 19 20 3 dX6_person_19 rfl rfl rfl ?_
  refine gx_iastore X 20 21 29 (by decide) rfl dX6_person_20 rfl (fun m3 => ?_)
  refine gx_aload_n X 21 22 0 dX6_person_21 rfl rfl rfl ?_
  refine gx_getR X 22 25 0 (by decide) rfl rfl fg_X6_26 dX6_person_22 rfl ?_
  refine gx_iconst X 25 26 (3) dX6_person_25 rfl ci_3 ?_
  refine gx_iload X 26 28 4 dX6_person_26 rfl rfl ?_
  refine gx_iastore X 28 29 29 (by decide) rfl dX6_person_28 rfl (fun m4 => ?_)
  refine gx_aload_n X 29 30 0 dX6_person_29 rfl rfl rfl ?_
  refine gx_getR X 30 33 0 (by decide) rfl rfl fg_X6_26 dX6_person_30 rfl ?_
  refine gx_iconst X 33 34 (4) dX6_person_33 rfl ci_4 ?_
  refine gx_iload X 34 36 5 dX6_person_34 rfl rfl ?_
  refine gx_iastore X 36 37 29 (by decide) rfl dX6_person_36 rfl (fun m5 => ?_)
  refine gx_aload_n X 37 38 0 dX6_person_37 rfl rfl rfl ?_
  refine gx_getR X 38 41 0 (by decide) rfl rfl fg_X6_10 dX6_person_38 rfl ?_
  refine gx_aload_n X 41 42 0 dX6_person_41 rfl rfl rfl ?_
  refine gx_getR X 42 45 0 (by decide) rfl rfl fg_X6_26 dX6_person_42 rfl ?_
  refine gx_iconst X 45 46 (0) dX6_person_45 rfl ci_0 ?_
  refine gx_calliV X 46 49 1 (rest := []) (As := [.ref (adr 29), .int 0]) (tX3_mayCome hJ 29 30 0 (by decide) rfl m5) (by decide) rfl rfl wc_X3_mayCome wl_X6_68 wi_X3_mayCome ws_X3_mayCome wn_X3 rfl hd_X3_mayCome ⟨Nat.le_of_ble_eq_true rfl, Nat.le_of_ble_eq_true rfl⟩ ⟨rfl, rfl⟩ rfl rfl (Nat.le_of_ble_eq_true rfl) dX6_person_46 rfl (fun x6 m7 => ?_)
  refine gx_if_ne X 49 54 52 dX6_person_49 rfl rfl ?_ ?_
  · refine gx_aload_n X 54 55 0 dX6_person_54 rfl rfl rfl ?_
    refine gx_getR X 55 58 0 (by decide) rfl rfl fg_X6_10 dX6_person_55 rfl ?_
    refine gx_iconst X 58 59 (1) dX6_person_58 rfl ci_1 ?_
    refine gx_calliV X 59 62 1 (rest := []) (As := [.int 1]) (tX3_hasRoom hJ 1 m7) (by decide) rfl rfl wc_X3_hasRoom wl_X6_72 wi_X3_hasRoom ws_X3_hasRoom wn_X3 rfl hd_X3_hasRoom ⟨Nat.le_of_ble_eq_true rfl, Nat.le_of_ble_eq_true rfl⟩ ⟨rfl, rfl⟩ rfl rfl (Nat.le_of_ble_eq_true rfl) dX6_person_59 rfl (fun x8 m9 => ?_)
    refine gx_if_ne X 62 68 65 dX6_person_62 rfl rfl ?_ ?_
    · refine gx_aload_n X 68 69 0 dX6_person_68 rfl rfl rfl ?_
      refine gx_getR X 69 72 0 (by decide) rfl rfl fg_X6_10 dX6_person_69 rfl ?_
      refine gx_aload_n X 72 73 0 dX6_person_72 rfl rfl rfl ?_
      refine gx_getR X 73 76 0 (by decide) rfl rfl fg_X6_26 dX6_person_73 rfl ?_
      refine gx_iconst X 76 77 (0) dX6_person_76 rfl ci_0 ?_
      refine gx_callvV X 77 80 1 (rest := []) (As := [.ref (adr 29), .int 0]) (tX3_enlist hJ 29 30 0 (by decide) rfl m9) (by decide) rfl rfl wc_X3_enlist wl_X6_76 wi_X3_enlist ws_X3_enlist wn_X3 rfl hd_X3_enlist ⟨Nat.le_of_ble_eq_true rfl, Nat.le_of_ble_eq_true rfl⟩ ⟨rfl, rfl⟩ rfl rfl (Nat.le_of_ble_eq_true rfl) dX6_person_77 rfl (fun x10 m11 => ?_)
      refine gx_aload_n X 80 81 0 dX6_person_80 rfl rfl rfl ?_
      refine gx_getR X 81 84 0 (by decide) rfl rfl fg_X6_10 dX6_person_81 rfl ?_
      refine gx_getI X 84 87 1 (by decide) rfl rfl fg_X6_80 dX6_person_84 rfl ?_
      refine gx_iconst X 87 88 (1) dX6_person_87 rfl ci_1 ?_
      refine gx_isub X 88 89 dX6_person_88 rfl ?_
      exact gx_iret X 89 hr dX6_person_89
    refine gx_bipush X 65 67 (-3) dX6_person_65 rfl cb_m3 ?_
    exact gx_iret X 67 hr dX6_person_67
  refine gx_iconst X 52 53 (-1) dX6_person_52 rfl ci_m1 ?_
  exact gx_iret X 53 hr dX6_person_53
def fX6_told (a1 : Int32) (a2 : Int32) (μ : Mm) : Aa := mm_cl (fX3_has a1 μ) (fun (x1 : Int32) (m2 : Mm) => mm_lt (fun (m3 : Mm) => some ((-1), m3)) (fun (k_20 : Mm → Aa) => if x1 = 0 then (k_20 m2) else (mm_cl (fX6_isWithin a2 7 m2) (fun (x4 : Int32) (m5 : Mm) => if x4 = 0 then (k_20 m5) else (if a2 = 3 then (mm_cl (fX3_paceOf a1 m5) (fun (x11 : Int32) (m12 : Mm) => some (x11, m12))) else (mm_ck a1 10 (mm_ck a2 7 (mm_lt (m5 ((4 + a1.toNatClampNeg)) a2.toNatClampNeg) (fun (x7 : Int32) => mm_lt (fun (x8 : Int32) (m9 : Mm) => some (x8, m9)) (fun (k_65 : Int32 → Mm → Aa) => mm_lt (fun (m10 : Mm) => k_65 x7 m10) (fun (k_64 : Mm → Aa) => if a2 = 6 then (if x7 = ((-1)) then (k_65 ((-4)) m5) else (k_64 m5)) else (k_64 m5))))))))))))
abbrev rX6_told : Room := { frames := 3, cells := 0, slots := 0, locals := 63 }
set_option maxRecDepth 100000 in
set_option maxHeartbeats 8000000 in
theorem tX6_told {l : Launch} {D : va_G} {cA : Nat → ClassId} {adr : Nat → Nat} {tt sK sV : Nat → Nat} {qv : Value} (hJ : mm_J adr NX) (a1 : Int32) (a2 : Int32) (μ : Mm) : mm_Mi l D cA adr sX NX (mm_SX (mm_A adr NX) tt sK sV qv) yX6_told cX6_told 4 (some .int) rX6_told [.ref (adr 0), .int a1, .int a2] μ (fX6_told a1 a2 μ) := by
  refine mm_entryi hJ mm_okX (by decide) (Nat.le_of_ble_eq_true rfl) ⟨rfl, rfl⟩ (fun p e s m below meth c X hr => ?_)
  generalize ([.ref (adr 0), .int a1, .int a2] : List Value).toArray = args at X ⊢
  refine gx_lv (lv' := [(0, .ref (adr 0)), (1, .int a1), (2, .int a2)]) rfl ?_
  unfold fX6_told
  refine gx_aload_n X 0 1 0 dX6_told_0 rfl rfl rfl ?_
  refine gx_getR X 1 4 0 (by decide) rfl rfl fg_X6_10 dX6_told_1 rfl ?_
  refine gx_iload_n X 4 5 1 dX6_told_4 rfl rfl rfl ?_
  refine gx_calliV X 5 8 1 (rest := []) (As := [.int a1]) (tX3_has hJ a1 μ) (by decide) rfl rfl wc_X3_has wl_X6_83 wi_X3_has ws_X3_has wn_X3 rfl hd_X3_has ⟨Nat.le_of_ble_eq_true rfl, Nat.le_of_ble_eq_true rfl⟩ ⟨rfl, rfl⟩ rfl rfl (Nat.le_of_ble_eq_true rfl) dX6_told_5 rfl (fun x1 m2 => ?_)
  refine gx_jn (fun (k : Mm → Aa) => ∀ (m3 : Mm), mm_G p l e rX6_told s m args below meth c 4 D cA adr sX NX (mm_Qi D cA adr sX NX) m3 20 [] [] (k m3)) ?_ (fun k_20 hk_20 => ?_)
  · intro m3
    refine gx_iconst X 20 21 (-1) dX6_told_20 rfl ci_m1 ?_
    exact gx_iret X 21 hr dX6_told_21
  refine gx_if_eq X 8 20 11 dX6_told_8 rfl rfl ?_ ?_
  · refine gx_sub [] rfl ?_
    exact hk_20 m2
  refine gx_iload_n X 11 12 2 dX6_told_11 rfl rfl rfl ?_
  refine gx_bipush X 12 14 (7) dX6_told_12 rfl cb_7 ?_
  refine gx_calliS X 14 17 (rest := []) (As := [.int a2, .int 7]) (tX6_isWithin hJ a2 7 m2) wc_X6_isWithin wl_X6_55 wt_X6_isWithin wn_X6 hd_X6_isWithin ⟨Nat.le_of_ble_eq_true rfl, Nat.le_of_ble_eq_true rfl⟩ ⟨rfl, rfl⟩ rfl rfl (Nat.le_of_ble_eq_true rfl) dX6_told_14 rfl (fun x4 m5 => ?_)
  refine gx_if_ne X 17 22 20 dX6_told_17 rfl rfl ?_ ?_
  · refine gx_iload_n X 22 23 2 dX6_told_22 rfl rfl rfl ?_
    refine gx_iconst X 23 24 (3) dX6_told_23 rfl ci_3 ?_
    refine gx_icmp_ne X 24 36 27 dX6_told_24 rfl rfl ?_ ?_
    · refine gx_aload_n X 36 37 0 dX6_told_36 rfl rfl rfl ?_
      refine gx_getR X 37 40 0 (by decide) rfl rfl fg_X6_10 dX6_told_37 rfl ?_
      refine gx_getR X 40 43 1 (by decide) rfl rfl fg_X6_90 dX6_told_40 rfl ?_
      refine gx_iload_n X 43 44 1 dX6_told_43 rfl rfl rfl ?_
      refine gx_aaload X 44 45 3 (by decide) rfl rfl rfl dX6_told_44 rfl (fun h6 => ?_)
      refine gx_iload_n X 45 46 2 dX6_told_45 rfl rfl rfl ?_
      refine gx_iaload X 46 47 ((4 + a1.toNatClampNeg)) (sX_fl h6) (sX_f h6) dX6_told_46 rfl ?_
      refine gx_istore_n X 47 48 (fun x7 => [(3, .int x7), (0, .ref (adr 0)), (1, .int a1), (2, .int a2)]) dX6_told_47 rfl rfl (by decide) (fun _ => rfl) (fun x7 => ?_)
      refine gx_iload_n X 48 49 3 dX6_told_48 rfl rfl rfl ?_
      refine gx_bipush X 49 51 (6) dX6_told_49 rfl cb_6 ?_
      refine gx_jn (fun (k : Int32 → Mm → Aa) => ∀ (x8 : Int32) (m9 : Mm), mm_G p l e rX6_told s m args below meth c 4 D cA adr sX NX (mm_Qi D cA adr sX NX) m9 65 [] [.int x8] (k x8 m9)) ?_ (fun k_65 hk_65 => ?_)
      · intro x8 m9
        exact gx_iret X 65 hr dX6_told_65
      refine gx_jn (fun (k : Mm → Aa) => ∀ (m10 : Mm), mm_G p l e rX6_told s m args below meth c 4 D cA adr sX NX (mm_Qi D cA adr sX NX) m10 64 [(3, .int x7)] [] (k m10)) ?_ (fun k_64 hk_64 => ?_)
      · intro m10
        refine gx_iload_n X 64 65 0 dX6_told_64 rfl rfl rfl ?_
        refine gx_sub [] rfl ?_
        exact hk_65 x7 m10
      refine gx_icmp_ne X 51 64 54 dX6_told_51 rfl rfl ?_ ?_
      · refine gx_sub [0] rfl ?_
        exact hk_64 m5
      refine gx_iload_n X 54 55 0 dX6_told_54 rfl rfl rfl ?_
      refine gx_iconst X 55 56 (-1) dX6_told_55 rfl ci_m1 ?_
      refine gx_icmp_ne X 56 64 59 dX6_told_56 rfl rfl ?_ ?_
      · refine gx_sub [0] rfl ?_
        exact hk_64 m5
      refine gx_bipush X 59 61 (-4) dX6_told_59 rfl cb_m4 ?_
      refine gx_goto X 61 65 dX6_told_61 rfl ?_
      refine gx_sub [] rfl ?_
      exact hk_65 ((-4)) m5
    refine gx_aload_n X 27 28 0 dX6_told_27 rfl rfl rfl ?_
    refine gx_getR X 28 31 0 (by decide) rfl rfl fg_X6_10 dX6_told_28 rfl ?_
    refine gx_iload_n X 31 32 1 dX6_told_31 rfl rfl rfl ?_
    refine gx_calliV X 32 35 1 (rest := []) (As := [.int a1]) (tX3_paceOf hJ a1 m5) (by decide) rfl rfl wc_X3_paceOf wl_X6_86 wi_X3_paceOf ws_X3_paceOf wn_X3 rfl hd_X3_paceOf ⟨Nat.le_of_ble_eq_true rfl, Nat.le_of_ble_eq_true rfl⟩ ⟨rfl, rfl⟩ rfl rfl (Nat.le_of_ble_eq_true rfl) dX6_told_32 rfl (fun x11 m12 => ?_)
    exact gx_iret X 35 hr dX6_told_35
  refine gx_sub [] rfl ?_
  exact hk_20 m5
def fX6_stay (a1 : Int32) (a2 : Int32) (μ : Mm) : Aa := mm_cl (fX3_has a1 μ) (fun (x1 : Int32) (m2 : Mm) => mm_lt (fun (m3 : Mm) => some ((-1), m3)) (fun (k_29 : Mm → Aa) => if x1 = 0 then (k_29 m2) else (mm_ck 5 6 (if a2 < ((mm_stV 3).getD (5 : Int32).toNatClampNeg 0) then (k_29 m2) else (mm_ck 5 6 (if a2 ≤ ((mm_stV 4).getD (5 : Int32).toNatClampNeg 0) then (mm_ck a1 10 (mm_ck 5 7 (mm_lt (m2 ((4 + a1.toNatClampNeg)) (5 : Int32).toNatClampNeg) (fun (x5 : Int32) => mm_ck a1 10 (mm_ck 5 7 (mm_lt (mm_wr m2 ((4 + a1.toNatClampNeg)) (5 : Int32).toNatClampNeg a2) (fun (m7 : Mm) => some (x5, m7)))))))) else (k_29 m2)))))))
abbrev rX6_stay : Room := { frames := 2, cells := 0, slots := 0, locals := 42 }
set_option maxRecDepth 100000 in
set_option maxHeartbeats 8000000 in
theorem tX6_stay {l : Launch} {D : va_G} {cA : Nat → ClassId} {adr : Nat → Nat} {tt sK sV : Nat → Nat} {qv : Value} (hJ : mm_J adr NX) (a1 : Int32) (a2 : Int32) (μ : Mm) : mm_Mi l D cA adr sX NX (mm_SX (mm_A adr NX) tt sK sV qv) yX6_stay cX6_stay 4 (some .int) rX6_stay [.ref (adr 0), .int a1, .int a2] μ (fX6_stay a1 a2 μ) := by
  refine mm_entryi hJ mm_okX (by decide) (Nat.le_of_ble_eq_true rfl) ⟨rfl, rfl⟩ (fun p e s m below meth c X hr => ?_)
  generalize ([.ref (adr 0), .int a1, .int a2] : List Value).toArray = args at X ⊢
  refine gx_lv (lv' := [(0, .ref (adr 0)), (1, .int a1), (2, .int a2)]) rfl ?_
  unfold fX6_stay
  refine gx_aload_n X 0 1 0 dX6_stay_0 rfl rfl rfl ?_
  refine gx_getR X 1 4 0 (by decide) rfl rfl fg_X6_10 dX6_stay_1 rfl ?_
  refine gx_iload_n X 4 5 1 dX6_stay_4 rfl rfl rfl ?_
  refine gx_calliV X 5 8 1 (rest := []) (As := [.int a1]) (tX3_has hJ a1 μ) (by decide) rfl rfl wc_X3_has wl_X6_83 wi_X3_has ws_X3_has wn_X3 rfl hd_X3_has ⟨Nat.le_of_ble_eq_true rfl, Nat.le_of_ble_eq_true rfl⟩ ⟨rfl, rfl⟩ rfl rfl (Nat.le_of_ble_eq_true rfl) dX6_stay_5 rfl (fun x1 m2 => ?_)
  refine gx_jn (fun (k : Mm → Aa) => ∀ (m3 : Mm), mm_G p l e rX6_stay s m args below meth c 4 D cA adr sX NX (mm_Qi D cA adr sX NX) m3 29 [] [] (k m3)) ?_ (fun k_29 hk_29 => ?_)
  · intro m3
    refine gx_iconst X 29 30 (-1) dX6_stay_29 rfl ci_m1 ?_
    exact gx_iret X 30 hr dX6_stay_30
  refine gx_if_eq X 8 29 11 dX6_stay_8 rfl rfl ?_ ?_
  · refine gx_sub [] rfl ?_
    exact hk_29 m2
  refine gx_iload_n X 11 12 2 dX6_stay_11 rfl rfl rfl ?_
  refine gx_getS X 12 15 3 (by decide) wf_X6_94 dX6_stay_12 rfl ?_
  refine gx_iconst X 15 16 (5) dX6_stay_15 rfl ci_5 ?_
  refine gx_sload X 16 17 3 (by decide) rfl dX6_stay_16 rfl ?_
  refine gx_icmp_lt X 17 29 20 dX6_stay_17 rfl rfl ?_ ?_
  · refine gx_sub [] rfl ?_
    exact hk_29 m2
  refine gx_iload_n X 20 21 2 dX6_stay_20 rfl rfl rfl ?_
  refine gx_getS X 21 24 4 (by decide) wf_X6_97 dX6_stay_21 rfl ?_
  refine gx_iconst X 24 25 (5) dX6_stay_24 rfl ci_5 ?_
  refine gx_sload X 25 26 4 (by decide) rfl dX6_stay_25 rfl ?_
  refine gx_icmp_le X 26 31 29 dX6_stay_26 rfl rfl ?_ ?_
  · refine gx_aload_n X 31 32 0 dX6_stay_31 rfl rfl rfl ?_
    refine gx_getR X 32 35 0 (by decide) rfl rfl fg_X6_10 dX6_stay_32 rfl ?_
    refine gx_getR X 35 38 1 (by decide) rfl rfl fg_X6_90 dX6_stay_35 rfl ?_
    refine gx_iload_n X 38 39 1 dX6_stay_38 rfl rfl rfl ?_
    refine gx_aaload X 39 40 3 (by decide) rfl rfl rfl dX6_stay_39 rfl (fun h4 => ?_)
    refine gx_iconst X 40 41 (5) dX6_stay_40 rfl ci_5 ?_
    refine gx_iaload X 41 42 ((4 + a1.toNatClampNeg)) (sX_fl h4) (sX_f h4) dX6_stay_41 rfl ?_
    refine gx_istore_n X 42 43 (fun x5 => [(3, .int x5), (0, .ref (adr 0)), (1, .int a1), (2, .int a2)]) dX6_stay_42 rfl rfl (by decide) (fun _ => rfl) (fun x5 => ?_)
    refine gx_aload_n X 43 44 1 dX6_stay_43 rfl rfl rfl ?_
    refine gx_getR X 44 47 0 (by decide) rfl rfl fg_X6_10 dX6_stay_44 rfl ?_
    refine gx_getR X 47 50 1 (by decide) rfl rfl fg_X6_90 dX6_stay_47 rfl ?_
    refine gx_iload_n X 50 51 2 dX6_stay_50 rfl rfl rfl ?_
    refine gx_aaload X 51 52 3 (by decide) rfl rfl rfl dX6_stay_51 rfl (fun h6 => ?_)
    refine gx_iconst X 52 53 (5) dX6_stay_52 rfl ci_5 ?_
    refine gx_iload_n X 53 54 3 dX6_stay_53 rfl rfl rfl ?_
    refine gx_iastore X 54 55 ((4 + a1.toNatClampNeg)) (sX_fl h6) (sX_f h6) dX6_stay_54 rfl (fun m7 => ?_)
    refine gx_iload_n X 55 56 0 dX6_stay_55 rfl rfl rfl ?_
    exact gx_iret X 56 hr dX6_stay_56
  refine gx_sub [] rfl ?_
  exact hk_29 m2
def fX6_hold (a1 : Int32) (a2 : Int32) (μ : Mm) : Aa := mm_cl (fX3_has a1 μ) (fun (x1 : Int32) (m2 : Mm) => mm_lt (fun (m3 : Mm) => some ((-1), m3)) (fun (k_32 : Mm → Aa) => if x1 = 0 then (k_32 m2) else (if a2 = a1 then (k_32 m2) else (mm_lt (fun (m4 : Mm) => mm_ck a1 10 (mm_ck 6 7 (mm_lt (m4 ((4 + a1.toNatClampNeg)) (6 : Int32).toNatClampNeg) (fun (x6 : Int32) => mm_ck a1 10 (mm_ck 6 7 (mm_lt (mm_wr m4 ((4 + a1.toNatClampNeg)) (6 : Int32).toNatClampNeg a2) (fun (m8 : Mm) => some (1 + x6, m8)))))))) (fun (k_34 : Mm → Aa) => if a2 = ((-1)) then (k_34 m2) else (mm_cl (fX3_has a2 m2) (fun (x9 : Int32) (m10 : Mm) => if x9 = 0 then (k_32 m10) else (k_34 m10))))))))
abbrev rX6_hold : Room := { frames := 2, cells := 0, slots := 0, locals := 42 }
set_option maxRecDepth 100000 in
set_option maxHeartbeats 8000000 in
theorem tX6_hold {l : Launch} {D : va_G} {cA : Nat → ClassId} {adr : Nat → Nat} {tt sK sV : Nat → Nat} {qv : Value} (hJ : mm_J adr NX) (a1 : Int32) (a2 : Int32) (μ : Mm) : mm_Mi l D cA adr sX NX (mm_SX (mm_A adr NX) tt sK sV qv) yX6_hold cX6_hold 4 (some .int) rX6_hold [.ref (adr 0), .int a1, .int a2] μ (fX6_hold a1 a2 μ) := by
  refine mm_entryi hJ mm_okX (by decide) (Nat.le_of_ble_eq_true rfl) ⟨rfl, rfl⟩ (fun p e s m below meth c X hr => ?_)
  generalize ([.ref (adr 0), .int a1, .int a2] : List Value).toArray = args at X ⊢
  refine gx_lv (lv' := [(0, .ref (adr 0)), (1, .int a1), (2, .int a2)]) rfl ?_
  unfold fX6_hold
  refine gx_aload_n X 0 1 0 dX6_hold_0 rfl rfl rfl ?_
  refine gx_getR X 1 4 0 (by decide) rfl rfl fg_X6_10 dX6_hold_1 rfl ?_
  refine gx_iload_n X 4 5 1 dX6_hold_4 rfl rfl rfl ?_
  refine gx_calliV X 5 8 1 (rest := []) (As := [.int a1]) (tX3_has hJ a1 μ) (by decide) rfl rfl wc_X3_has wl_X6_83 wi_X3_has ws_X3_has wn_X3 rfl hd_X3_has ⟨Nat.le_of_ble_eq_true rfl, Nat.le_of_ble_eq_true rfl⟩ ⟨rfl, rfl⟩ rfl rfl (Nat.le_of_ble_eq_true rfl) dX6_hold_5 rfl (fun x1 m2 => ?_)
  refine gx_jn (fun (k : Mm → Aa) => ∀ (m3 : Mm), mm_G p l e rX6_hold s m args below meth c 4 D cA adr sX NX (mm_Qi D cA adr sX NX) m3 32 [] [] (k m3)) ?_ (fun k_32 hk_32 => ?_)
  · intro m3
    refine gx_iconst X 32 33 (-1) dX6_hold_32 rfl ci_m1 ?_
    exact gx_iret X 33 hr dX6_hold_33
  refine gx_if_eq X 8 32 11 dX6_hold_8 rfl rfl ?_ ?_
  · refine gx_sub [] rfl ?_
    exact hk_32 m2
  refine gx_iload_n X 11 12 2 dX6_hold_11 rfl rfl rfl ?_
  refine gx_iload_n X 12 13 1 dX6_hold_12 rfl rfl rfl ?_
  refine gx_icmp_eq X 13 32 16 dX6_hold_13 rfl rfl ?_ ?_
  · refine gx_sub [] rfl ?_
    exact hk_32 m2
  refine gx_iload_n X 16 17 2 dX6_hold_16 rfl rfl rfl ?_
  refine gx_iconst X 17 18 (-1) dX6_hold_17 rfl ci_m1 ?_
  refine gx_jn (fun (k : Mm → Aa) => ∀ (m4 : Mm), mm_G p l e rX6_hold s m args below meth c 4 D cA adr sX NX (mm_Qi D cA adr sX NX) m4 34 [(0, .ref (adr 0)), (1, .int a1), (2, .int a2)] [] (k m4)) ?_ (fun k_34 hk_34 => ?_)
  · intro m4
    refine gx_aload_n X 34 35 0 dX6_hold_34 rfl rfl rfl ?_
    refine gx_getR X 35 38 0 (by decide) rfl rfl fg_X6_10 dX6_hold_35 rfl ?_
    refine gx_getR X 38 41 1 (by decide) rfl rfl fg_X6_90 dX6_hold_38 rfl ?_
    refine gx_iload_n X 41 42 1 dX6_hold_41 rfl rfl rfl ?_
    refine gx_aaload X 42 43 3 (by decide) rfl rfl rfl dX6_hold_42 rfl (fun h5 => ?_)
    refine gx_bipush X 43 45 (6) dX6_hold_43 rfl cb_6 ?_
    refine gx_iaload X 45 46 ((4 + a1.toNatClampNeg)) (sX_fl h5) (sX_f h5) dX6_hold_45 rfl ?_
    refine gx_istore_n X 46 47 (fun x6 => [(3, .int x6), (0, .ref (adr 0)), (1, .int a1), (2, .int a2)]) dX6_hold_46 rfl rfl (by decide) (fun _ => rfl) (fun x6 => ?_)
    refine gx_aload_n X 47 48 1 dX6_hold_47 rfl rfl rfl ?_
    refine gx_getR X 48 51 0 (by decide) rfl rfl fg_X6_10 dX6_hold_48 rfl ?_
    refine gx_getR X 51 54 1 (by decide) rfl rfl fg_X6_90 dX6_hold_51 rfl ?_
    refine gx_iload_n X 54 55 2 dX6_hold_54 rfl rfl rfl ?_
    refine gx_aaload X 55 56 3 (by decide) rfl rfl rfl dX6_hold_55 rfl (fun h7 => ?_)
    refine gx_bipush X 56 58 (6) dX6_hold_56 rfl cb_6 ?_
    refine gx_iload_n X 58 59 3 dX6_hold_58 rfl rfl rfl ?_
    refine gx_iastore X 59 60 ((4 + a1.toNatClampNeg)) (sX_fl h7) (sX_f h7) dX6_hold_59 rfl (fun m8 => ?_)
    refine gx_iconst X 60 61 (1) dX6_hold_60 rfl ci_1 ?_
    refine gx_iload_n X 61 62 0 dX6_hold_61 rfl rfl rfl ?_
    refine gx_iadd X 62 63 dX6_hold_62 rfl ?_
    exact gx_iret X 63 hr dX6_hold_63
  refine gx_icmp_eq X 18 34 21 dX6_hold_18 rfl rfl ?_ ?_
  · exact hk_34 m2
  refine gx_aload_n X 21 22 0 dX6_hold_21 rfl rfl rfl ?_
  refine gx_getR X 22 25 0 (by decide) rfl rfl fg_X6_10 dX6_hold_22 rfl ?_
  refine gx_iload_n X 25 26 2 dX6_hold_25 rfl rfl rfl ?_
  refine gx_calliV X 26 29 1 (rest := []) (As := [.int a2]) (tX3_has hJ a2 m2) (by decide) rfl rfl wc_X3_has wl_X6_83 wi_X3_has ws_X3_has wn_X3 rfl hd_X3_has ⟨Nat.le_of_ble_eq_true rfl, Nat.le_of_ble_eq_true rfl⟩ ⟨rfl, rfl⟩ rfl rfl (Nat.le_of_ble_eq_true rfl) dX6_hold_26 rfl (fun x9 m10 => ?_)
  refine gx_if_ne X 29 34 32 dX6_hold_29 rfl rfl ?_ ?_
  · exact hk_34 m10
  refine gx_sub [] rfl ?_
  exact hk_32 m10
def fX6_clear (μ : Mm) : Aa := mm_lt (μ 1 1) (fun (x1 : Int32) => mm_lt (mm_wr μ 1 1 0) (fun (m2 : Mm) => some (x1, m2)))
abbrev rX6_clear : Room := { frames := 0, cells := 0, slots := 0, locals := 0 }
set_option maxRecDepth 100000 in
set_option maxHeartbeats 8000000 in
theorem tX6_clear {l : Launch} {D : va_G} {cA : Nat → ClassId} {adr : Nat → Nat} {tt sK sV : Nat → Nat} {qv : Value} (hJ : mm_J adr NX) (μ : Mm) : mm_Mi l D cA adr sX NX (mm_SX (mm_A adr NX) tt sK sV qv) yX6_clear cX6_clear 2 (some .int) rX6_clear [.ref (adr 0)] μ (fX6_clear μ) := by
  refine mm_entryi hJ mm_okX (by decide) (Nat.le_of_ble_eq_true rfl) ⟨rfl, rfl⟩ (fun p e s m below meth c X hr => ?_)
  generalize ([.ref (adr 0)] : List Value).toArray = args at X ⊢
  refine gx_lv (lv' := [(0, .ref (adr 0))]) rfl ?_
  unfold fX6_clear
  refine gx_aload_n X 0 1 0 dX6_clear_0 rfl rfl rfl ?_
  refine gx_getR X 1 4 0 (by decide) rfl rfl fg_X6_10 dX6_clear_1 rfl ?_
  refine gx_getI X 4 7 1 (by decide) rfl rfl fg_X6_80 dX6_clear_4 rfl ?_
  refine gx_istore_n X 7 8 (fun x1 => [(1, .int x1), (0, .ref (adr 0))]) dX6_clear_7 rfl rfl (by decide) (fun _ => rfl) (fun x1 => ?_)
  refine gx_aload_n X 8 9 1 dX6_clear_8 rfl rfl rfl ?_
  refine gx_getR X 9 12 0 (by decide) rfl rfl fg_X6_10 dX6_clear_9 rfl ?_
  refine gx_iconst X 12 13 (0) dX6_clear_12 rfl ci_0 ?_
  refine gx_putI X 13 16 1 (by decide) rfl rfl fp_X6_80 dX6_clear_13 rfl (fun m2 => ?_)
  refine gx_iload_n X 16 17 0 dX6_clear_16 rfl rfl rfl ?_
  exact gx_iret X 17 hr dX6_clear_17
def fX6_type_L74 (a1 : Int64) (k_98 : Mm → Aa) (rec_74 : Int32 → Mm → Aa) (x6 : Int32) (m7 : Mm) : Aa := if x6 < 0 then (k_98 m7) else (mm_cl (fX6_lowByte a1 x6 m7) (fun (x8 : Int32) (m9 : Mm) => mm_cl (fX4_put x8 m9) (fun (x10 : Int32) (m11 : Mm) => mm_lt (x6 + (-1)) (fun (x12 : Int32) => rec_74 x12 m11))))
def fX6_type_L16 (a1 : Int64) (a2 : Int32) (k_44 : Mm → Aa) (k_52 : Mm → Aa) (rec_16 : Int32 → Mm → Aa) (x14 : Int32) (m15 : Mm) : Aa := if a2 ≤ x14 then (k_52 m15) else (mm_cl (fX6_lowByte a1 x14 m15) (fun (x16 : Int32) (m17 : Mm) => mm_lt x16 (fun (x18 : Int32) => if x18 < 32 then (k_44 m17) else (if x18 ≤ 126 then (mm_lt (x14 + 1) (fun (x19 : Int32) => rec_16 x19 m17)) else (k_44 m17)))))
def fX6_type (a1 : Int64) (a2 : Int32) (μ : Mm) : Aa := mm_lt (fun (m1 : Mm) => some ((-1), m1)) (fun (k_11 : Mm → Aa) => if a2 < 1 then (k_11 μ) else (if a2 ≤ 8 then (mm_lt 0 (fun (x2 : Int32) => mm_lt (fun (m3 : Mm) => if ((m3 27 0) + a2) ≤ 80 then (mm_lt (a2 - 1) (fun (x4 : Int32) => mm_lt (fun (m5 : Mm) => some (m5 27 0, m5)) (fun (k_98 : Mm → Aa) => mm_lk (fun (_ : Int32) (_ : Mm) => (none : Aa)) (fX6_type_L74 a1 k_98) mm_fu x4 m3))) else (some ((-3), m3))) (fun (k_52 : Mm → Aa) => mm_lt (fun (m13 : Mm) => some ((-1), m13)) (fun (k_44 : Mm → Aa) => mm_lk (fun (_ : Int32) (_ : Mm) => (none : Aa)) (fX6_type_L16 a1 a2 k_44 k_52) mm_fu x2 μ)))) else (k_11 μ)))
abbrev rX6_type : Room := { frames := 1, cells := 0, slots := 0, locals := 22 }
set_option maxRecDepth 100000 in
set_option maxHeartbeats 8000000 in
theorem tX6_type {l : Launch} {D : va_G} {cA : Nat → ClassId} {adr : Nat → Nat} {tt sK sV : Nat → Nat} {qv : Value} (hJ : mm_J adr NX) (a1 : Int64) (a2 : Int32) (μ : Mm) : mm_Mi l D cA adr sX NX (mm_SX (mm_A adr NX) tt sK sV qv) yX6_type cX6_type 6 (some .int) rX6_type [.ref (adr 0), .long a1, .int a2] μ (fX6_type a1 a2 μ) := by
  refine mm_entryi hJ mm_okX (by decide) (Nat.le_of_ble_eq_true rfl) ⟨rfl, rfl⟩ (fun p e s m below meth c X hr => ?_)
  generalize ([.ref (adr 0), .long a1, .int a2] : List Value).toArray = args at X ⊢
  refine gx_lv (lv' := [(0, .ref (adr 0)), (1, .long a1), (3, .int a2)]) rfl ?_
  unfold fX6_type
  refine gx_iload_n X 0 1 2 dX6_type_0 rfl rfl rfl ?_
  refine gx_iconst X 1 2 (1) dX6_type_1 rfl ci_1 ?_
  refine gx_jn (fun (k : Mm → Aa) => ∀ (m1 : Mm), mm_G p l e rX6_type s m args below meth c 6 D cA adr sX NX (mm_Qi D cA adr sX NX) m1 11 [] [] (k m1)) ?_ (fun k_11 hk_11 => ?_)
  · intro m1
    refine gx_iconst X 11 12 (-1) dX6_type_11 rfl ci_m1 ?_
    exact gx_iret X 12 hr dX6_type_12
  refine gx_icmp_lt X 2 11 5 dX6_type_2 rfl rfl ?_ ?_
  · refine gx_sub [] rfl ?_
    exact hk_11 μ
  refine gx_iload_n X 5 6 2 dX6_type_5 rfl rfl rfl ?_
  refine gx_bipush X 6 8 (8) dX6_type_6 rfl cb_8 ?_
  refine gx_icmp_le X 8 13 11 dX6_type_8 rfl rfl ?_ ?_
  · refine gx_iconst X 13 14 (0) dX6_type_13 rfl ci_0 ?_
    refine gx_istore X 14 16 (fun x2 => [(4, .int x2), (0, .ref (adr 0)), (1, .long a1), (3, .int a2)]) dX6_type_14 rfl (by decide) (fun _ => rfl) (fun x2 => ?_)
    refine gx_jn (fun (k : Mm → Aa) => ∀ (m3 : Mm), mm_G p l e rX6_type s m args below meth c 6 D cA adr sX NX (mm_Qi D cA adr sX NX) m3 52 [(0, .ref (adr 0)), (1, .long a1), (3, .int a2)] [] (k m3)) ?_ (fun k_52 hk_52 => ?_)
    · intro m3
      refine gx_aload_n X 52 53 0 dX6_type_52 rfl rfl rfl ?_
      refine gx_getR X 53 56 0 (by decide) rfl rfl fg_X6_22 dX6_type_53 rfl ?_
      refine gx_getI X 56 59 27 (by decide) rfl rfl fg_X6_104 dX6_type_56 rfl ?_
      refine gx_iload_n X 59 60 2 dX6_type_59 rfl rfl rfl ?_
      refine gx_iadd X 60 61 dX6_type_60 rfl ?_
      refine gx_bipush X 61 63 (80) dX6_type_61 rfl cb_80 ?_
      refine gx_icmp_le X 63 69 66 dX6_type_63 rfl rfl ?_ ?_
      · refine gx_iload_n X 69 70 2 dX6_type_69 rfl rfl rfl ?_
        refine gx_iconst X 70 71 (1) dX6_type_70 rfl ci_1 ?_
        refine gx_isub X 71 72 dX6_type_71 rfl ?_
        refine gx_istore X 72 74 (fun x4 => [(4, .int x4), (0, .ref (adr 0)), (1, .long a1), (3, .int a2)]) dX6_type_72 rfl (by decide) (fun _ => rfl) (fun x4 => ?_)
        refine gx_jn (fun (k : Mm → Aa) => ∀ (m5 : Mm), mm_G p l e rX6_type s m args below meth c 6 D cA adr sX NX (mm_Qi D cA adr sX NX) m5 98 [(0, .ref (adr 0))] [] (k m5)) ?_ (fun k_98 hk_98 => ?_)
        · intro m5
          refine gx_aload_n X 98 99 0 dX6_type_98 rfl rfl rfl ?_
          refine gx_getR X 99 102 0 (by decide) rfl rfl fg_X6_22 dX6_type_99 rfl ?_
          refine gx_getI X 102 105 27 (by decide) rfl rfl fg_X6_104 dX6_type_102 rfl ?_
          exact gx_iret X 105 hr dX6_type_105
        refine gx_sub [1, 2, 0] rfl ?_
        refine mm_lk_ind (fun (rec : Int32 → Mm → Aa) => ∀ (x6 : Int32) (m7 : Mm), mm_G p l e rX6_type s m args below meth c 6 D cA adr sX NX (mm_Qi D cA adr sX NX) m7 74 [(0, .ref (adr 0)), (1, .long a1), (4, .int x6)] [] (rec x6 m7)) (fun _ _ => gx_none) (fun rec_74 hr_74 x6 m7 => ?_) mm_fu x4 m3
        unfold fX6_type_L74
        refine gx_iload X 74 76 2 dX6_type_74 rfl rfl ?_
        refine gx_if_lt X 76 98 79 dX6_type_76 rfl rfl ?_ ?_
        · refine gx_sub [0] rfl ?_
          exact hk_98 m7
        refine gx_aload_n X 79 80 0 dX6_type_79 rfl rfl rfl ?_
        refine gx_getR X 80 83 0 (by decide) rfl rfl fg_X6_22 dX6_type_80 rfl ?_
        refine gx_lload_n X 83 84 1 dX6_type_83 rfl rfl rfl ?_
        refine gx_iload X 84 86 2 dX6_type_84 rfl rfl ?_
        refine gx_calliS X 86 89 (rest := [.ref (adr 27)]) (As := [.long a1, .int x6]) (tX6_lowByte hJ a1 x6 m7) wc_X6_lowByte wl_X6_100 wt_X6_lowByte wn_X6 hd_X6_lowByte ⟨Nat.le_of_ble_eq_true rfl, Nat.le_of_ble_eq_true rfl⟩ ⟨rfl, rfl⟩ rfl rfl (Nat.le_of_ble_eq_true rfl) dX6_type_86 rfl (fun x8 m9 => ?_)
        refine gx_callvV X 89 92 27 (rest := []) (As := [.int x8]) (tX4_put hJ x8 m9) (by decide) rfl rfl wc_X4_put wl_X6_105 wi_X4_put ws_X4_put wn_X4 rfl hd_X4_put ⟨Nat.le_of_ble_eq_true rfl, Nat.le_of_ble_eq_true rfl⟩ ⟨rfl, rfl⟩ rfl rfl (Nat.le_of_ble_eq_true rfl) dX6_type_89 rfl (fun x10 m11 => ?_)
        refine gx_iinc X 92 95 2 (-1) (fun x12 => [(4, .int x12), (0, .ref (adr 0)), (1, .long a1)]) dX6_type_92 rfl rfl ci_m1 (by decide) (fun _ => rfl) (fun x12 => ?_)
        refine gx_goto X 95 74 dX6_type_95 rfl ?_
        refine gx_sub [1, 2, 0] rfl ?_
        exact hr_74 x12 m11
      refine gx_bipush X 66 68 (-3) dX6_type_66 rfl cb_m3 ?_
      exact gx_iret X 68 hr dX6_type_68
    refine gx_jn (fun (k : Mm → Aa) => ∀ (m13 : Mm), mm_G p l e rX6_type s m args below meth c 6 D cA adr sX NX (mm_Qi D cA adr sX NX) m13 44 [] [] (k m13)) ?_ (fun k_44 hk_44 => ?_)
    · intro m13
      refine gx_iconst X 44 45 (-1) dX6_type_44 rfl ci_m1 ?_
      exact gx_iret X 45 hr dX6_type_45
    refine gx_sub [1, 2, 3, 0] rfl ?_
    refine mm_lk_ind (fun (rec : Int32 → Mm → Aa) => ∀ (x14 : Int32) (m15 : Mm), mm_G p l e rX6_type s m args below meth c 6 D cA adr sX NX (mm_Qi D cA adr sX NX) m15 16 [(0, .ref (adr 0)), (1, .long a1), (3, .int a2), (4, .int x14)] [] (rec x14 m15)) (fun _ _ => gx_none) (fun rec_16 hr_16 x14 m15 => ?_) mm_fu x2 μ
    unfold fX6_type_L16
    refine gx_iload X 16 18 3 dX6_type_16 rfl rfl ?_
    refine gx_iload_n X 18 19 2 dX6_type_18 rfl rfl rfl ?_
    refine gx_icmp_ge X 19 52 22 dX6_type_19 rfl rfl ?_ ?_
    · refine gx_sub [0, 1, 2] rfl ?_
      exact hk_52 m15
    refine gx_lload_n X 22 23 1 dX6_type_22 rfl rfl rfl ?_
    refine gx_iload X 23 25 3 dX6_type_23 rfl rfl ?_
    refine gx_calliS X 25 28 (rest := []) (As := [.long a1, .int x14]) (tX6_lowByte hJ a1 x14 m15) wc_X6_lowByte wl_X6_100 wt_X6_lowByte wn_X6 hd_X6_lowByte ⟨Nat.le_of_ble_eq_true rfl, Nat.le_of_ble_eq_true rfl⟩ ⟨rfl, rfl⟩ rfl rfl (Nat.le_of_ble_eq_true rfl) dX6_type_25 rfl (fun x16 m17 => ?_)
    refine gx_istore X 28 30 (fun x18 => [(5, .int x18), (0, .ref (adr 0)), (1, .long a1), (3, .int a2), (4, .int x14)]) dX6_type_28 rfl (by decide) (fun _ => rfl) (fun x18 => ?_)
    refine gx_iload X 30 32 0 dX6_type_30 rfl rfl ?_
    refine gx_bipush X 32 34 (32) dX6_type_32 rfl cb_32 ?_
    refine gx_icmp_lt X 34 44 37 dX6_type_34 rfl rfl ?_ ?_
    · refine gx_sub [] rfl ?_
      exact hk_44 m17
    refine gx_iload X 37 39 0 dX6_type_37 rfl rfl ?_
    refine gx_bipush X 39 41 (126) dX6_type_39 rfl cb_126 ?_
    refine gx_icmp_le X 41 46 44 dX6_type_41 rfl rfl ?_ ?_
    · refine gx_iinc X 46 49 4 (1) (fun x19 => [(4, .int x19), (5, .int x18), (0, .ref (adr 0)), (1, .long a1), (3, .int a2)]) dX6_type_46 rfl rfl ci_1 (by decide) (fun _ => rfl) (fun x19 => ?_)
      refine gx_goto X 49 16 dX6_type_49 rfl ?_
      refine gx_sub [2, 3, 4, 0] rfl ?_
      exact hr_16 x19 m17
    refine gx_sub [] rfl ?_
    exact hk_44 m17
  refine gx_sub [] rfl ?_
  exact hk_11 μ
def fX6_laws_L28 (k_64 : Mm → Aa) (rec_28 : Int32 → Mm → Aa) (x7 : Int32) (m8 : Mm) : Aa := if 6 ≤ x7 then (k_64 m8) else (mm_ck x7 30 (mm_lt (fun (m9 : Mm) => mm_lt (x7 + 1) (fun (x10 : Int32) => rec_28 x10 m9)) (fun (k_58 : Mm → Aa) => if (m8 29 x7.toNatClampNeg) < 0 then (k_58 m8) else (mm_ck x7 30 (mm_ck x7 6 (mm_lt (mm_wr m8 2 x7.toNatClampNeg (m8 29 x7.toNatClampNeg)) (fun (m11 : Mm) => k_58 m11)))))))
def fX6_laws (μ : Mm) : Aa := mm_cl (fX4_readLaws μ) (fun (x1 : Int32) (m2 : Mm) => mm_lt x1 (fun (x3 : Int32) => mm_lt (mm_wr m2 27 0 0) (fun (m4 : Mm) => if 0 ≤ x3 then (mm_lt 0 (fun (x5 : Int32) => mm_lt (fun (m6 : Mm) => some (x3, m6)) (fun (k_64 : Mm → Aa) => mm_lk (fun (_ : Int32) (_ : Mm) => (none : Aa)) (fX6_laws_L28 k_64) mm_fu x5 m4))) else (some (x3, m4)))))
abbrev rX6_laws : Room := { frames := 5, cells := 0, slots := 0, locals := 108 }
set_option maxRecDepth 100000 in
set_option maxHeartbeats 8000000 in
theorem tX6_laws {l : Launch} {D : va_G} {cA : Nat → ClassId} {adr : Nat → Nat} {tt sK sV : Nat → Nat} {qv : Value} (hJ : mm_J adr NX) (μ : Mm) : mm_Mi l D cA adr sX NX (mm_SX (mm_A adr NX) tt sK sV qv) yX6_laws cX6_laws 3 (some .int) rX6_laws [.ref (adr 0)] μ (fX6_laws μ) := by
  refine mm_entryi hJ mm_okX (by decide) (Nat.le_of_ble_eq_true rfl) ⟨rfl, rfl⟩ (fun p e s m below meth c X hr => ?_)
  generalize ([.ref (adr 0)] : List Value).toArray = args at X ⊢
  refine gx_lv (lv' := [(0, .ref (adr 0))]) rfl ?_
  unfold fX6_laws
  refine gx_aload_n X 0 1 0 dX6_laws_0 rfl rfl rfl ?_
  refine gx_getR X 1 4 0 (by decide) rfl rfl fg_X6_22 dX6_laws_1 rfl ?_
  refine gx_aload_n X 4 5 0 dX6_laws_4 rfl rfl rfl ?_
  refine gx_getR X 5 8 0 (by decide) rfl rfl fg_X6_26 dX6_laws_5 rfl ?_
  refine gx_calliV X 8 11 27 (rest := []) (As := [.ref (adr 29)]) (tX4_readLaws hJ μ) (by decide) rfl rfl wc_X4_readLaws wl_X6_109 wi_X4_readLaws ws_X4_readLaws wn_X4 rfl hd_X4_readLaws ⟨Nat.le_of_ble_eq_true rfl, Nat.le_of_ble_eq_true rfl⟩ ⟨rfl, rfl⟩ rfl rfl (Nat.le_of_ble_eq_true rfl) dX6_laws_8 rfl (fun x1 m2 => ?_)
  refine gx_istore_n X 11 12 (fun x3 => [(1, .int x3), (0, .ref (adr 0))]) dX6_laws_11 rfl rfl (by decide) (fun _ => rfl) (fun x3 => ?_)
  refine gx_aload_n X 12 13 1 dX6_laws_12 rfl rfl rfl ?_
  refine gx_getR X 13 16 0 (by decide) rfl rfl fg_X6_22 dX6_laws_13 rfl ?_
  refine gx_iconst X 16 17 (0) dX6_laws_16 rfl ci_0 ?_
  refine gx_putI X 17 20 27 (by decide) rfl rfl fp_X6_104 dX6_laws_17 rfl (fun m4 => ?_)
  refine gx_iload_n X 20 21 0 dX6_laws_20 rfl rfl rfl ?_
  refine gx_if_ge X 21 26 24 dX6_laws_21 rfl rfl ?_ ?_
  · refine gx_iconst X 26 27 (0) dX6_laws_26 rfl ci_0 ?_
    refine gx_istore_n X 27 28 (fun x5 => [(2, .int x5), (1, .int x3), (0, .ref (adr 0))]) dX6_laws_27 rfl rfl (by decide) (fun _ => rfl) (fun x5 => ?_)
    refine gx_jn (fun (k : Mm → Aa) => ∀ (m6 : Mm), mm_G p l e rX6_laws s m args below meth c 3 D cA adr sX NX (mm_Qi D cA adr sX NX) m6 64 [(1, .int x3)] [] (k m6)) ?_ (fun k_64 hk_64 => ?_)
    · intro m6
      refine gx_iload_n X 64 65 0 dX6_laws_64 rfl rfl rfl ?_
      exact gx_iret X 65 hr dX6_laws_65
    refine gx_sub [2, 1, 0] rfl ?_
    refine mm_lk_ind (fun (rec : Int32 → Mm → Aa) => ∀ (x7 : Int32) (m8 : Mm), mm_G p l e rX6_laws s m args below meth c 3 D cA adr sX NX (mm_Qi D cA adr sX NX) m8 28 [(0, .ref (adr 0)), (1, .int x3), (2, .int x7)] [] (rec x7 m8)) (fun _ _ => gx_none) (fun rec_28 hr_28 x7 m8 => ?_) mm_fu x5 m4
    unfold fX6_laws_L28
    refine gx_iload_n X 28 29 2 dX6_laws_28 rfl rfl rfl ?_
    refine gx_bipush X 29 31 (6) dX6_laws_29 rfl cb_6 ?_
    refine gx_icmp_ge X 31 64 34 dX6_laws_31 rfl rfl ?_ ?_
    · refine gx_sub [1] rfl ?_
      exact hk_64 m8
    refine gx_aload_n X 34 35 0 dX6_laws_34 rfl rfl rfl ?_
    refine gx_getR X 35 38 0 (by decide) rfl rfl fg_X6_26 dX6_laws_35 rfl ?_
    refine gx_iload_n X 38 39 2 dX6_laws_38 rfl rfl rfl ?_
    refine gx_iaload X 39 40 29 (by decide) rfl dX6_laws_39 rfl ?_
    refine gx_jn (fun (k : Mm → Aa) => ∀ (m9 : Mm), mm_G p l e rX6_laws s m args below meth c 3 D cA adr sX NX (mm_Qi D cA adr sX NX) m9 58 [(0, .ref (adr 0)), (1, .int x3), (2, .int x7)] [] (k m9)) ?_ (fun k_58 hk_58 => ?_)
    · intro m9
      refine gx_iinc X 58 61 2 (1) (fun x10 => [(2, .int x10), (0, .ref (adr 0)), (1, .int x3)]) dX6_laws_58 rfl rfl ci_1 (by decide) (fun _ => rfl) (fun x10 => ?_)
      refine gx_goto X 61 28 dX6_laws_61 rfl ?_
      refine gx_sub [1, 2, 0] rfl ?_
      exact hr_28 x10 m9
    refine gx_if_lt X 40 58 43 dX6_laws_40 rfl rfl ?_ ?_
    · exact hk_58 m8
    refine gx_aload_n X 43 44 0 dX6_laws_43 rfl rfl rfl ?_
    refine gx_getR X 44 47 0 (by decide) rfl rfl fg_X6_10 dX6_laws_44 rfl ?_
    refine gx_getR X 47 50 1 (by decide) rfl rfl fg_X6_65 dX6_laws_47 rfl ?_
    refine gx_iload_n X 50 51 2 dX6_laws_50 rfl rfl rfl ?_
    refine gx_aload_n X 51 52 0 dX6_laws_51 rfl rfl rfl ?_
    refine gx_getR X 52 55 0 (by decide) rfl rfl fg_X6_26 dX6_laws_52 rfl ?_
    refine gx_iload_n X 55 56 2 dX6_laws_55 rfl rfl rfl ?_
    refine gx_iaload X 56 57 29 (by decide) rfl dX6_laws_56 rfl ?_
    refine gx_iastore X 57 58 2 (by decide) rfl dX6_laws_57 rfl (fun m11 => ?_)
    exact hk_58 m11
  refine gx_iload_n X 24 25 0 dX6_laws_24 rfl rfl rfl ?_
  exact gx_iret X 25 hr dX6_laws_25
def fX6_people (μ : Mm) : Aa := mm_cl (fX4_readPeople μ) (fun (x1 : Int32) (m2 : Mm) => mm_lt x1 (fun (x3 : Int32) => mm_lt (mm_wr m2 27 0 0) (fun (m4 : Mm) => if 0 ≤ x3 then (mm_cl (fX6_enlistAll 29 30 0 x3 m4) (fun (x5 : Int32) (m6 : Mm) => some (x5, m6))) else (some (x3, m4)))))
abbrev rX6_people : Room := { frames := 7, cells := 0, slots := 0, locals := 159 }
set_option maxRecDepth 100000 in
set_option maxHeartbeats 8000000 in
theorem tX6_people {l : Launch} {D : va_G} {cA : Nat → ClassId} {adr : Nat → Nat} {tt sK sV : Nat → Nat} {qv : Value} (hJ : mm_J adr NX) (μ : Mm) : mm_Mi l D cA adr sX NX (mm_SX (mm_A adr NX) tt sK sV qv) yX6_people cX6_people 2 (some .int) rX6_people [.ref (adr 0)] μ (fX6_people μ) := by
  refine mm_entryi hJ mm_okX (by decide) (Nat.le_of_ble_eq_true rfl) ⟨rfl, rfl⟩ (fun p e s m below meth c X hr => ?_)
  generalize ([.ref (adr 0)] : List Value).toArray = args at X ⊢
  refine gx_lv (lv' := [(0, .ref (adr 0))]) rfl ?_
  unfold fX6_people
  refine gx_aload_n X 0 1 0 dX6_people_0 rfl rfl rfl ?_
  refine gx_getR X 1 4 0 (by decide) rfl rfl fg_X6_22 dX6_people_1 rfl ?_
  refine gx_aload_n X 4 5 0 dX6_people_4 rfl rfl rfl ?_
  refine gx_getR X 5 8 0 (by decide) rfl rfl fg_X6_26 dX6_people_5 rfl ?_
  refine gx_calliV X 8 11 27 (rest := []) (As := [.ref (adr 29)]) (tX4_readPeople hJ μ) (by decide) rfl rfl wc_X4_readPeople wl_X6_113 wi_X4_readPeople ws_X4_readPeople wn_X4 rfl hd_X4_readPeople ⟨Nat.le_of_ble_eq_true rfl, Nat.le_of_ble_eq_true rfl⟩ ⟨rfl, rfl⟩ rfl rfl (Nat.le_of_ble_eq_true rfl) dX6_people_8 rfl (fun x1 m2 => ?_)
  refine gx_istore_n X 11 12 (fun x3 => [(1, .int x3), (0, .ref (adr 0))]) dX6_people_11 rfl rfl (by decide) (fun _ => rfl) (fun x3 => ?_)
  refine gx_aload_n X 12 13 1 dX6_people_12 rfl rfl rfl ?_
  refine gx_getR X 13 16 0 (by decide) rfl rfl fg_X6_22 dX6_people_13 rfl ?_
  refine gx_iconst X 16 17 (0) dX6_people_16 rfl ci_0 ?_
  refine gx_putI X 17 20 27 (by decide) rfl rfl fp_X6_104 dX6_people_17 rfl (fun m4 => ?_)
  refine gx_iload_n X 20 21 0 dX6_people_20 rfl rfl rfl ?_
  refine gx_if_ge X 21 26 24 dX6_people_21 rfl rfl ?_ ?_
  · refine gx_aload_n X 26 27 1 dX6_people_26 rfl rfl rfl ?_
    refine gx_aload_n X 27 28 1 dX6_people_27 rfl rfl rfl ?_
    refine gx_getR X 28 31 0 (by decide) rfl rfl fg_X6_26 dX6_people_28 rfl ?_
    refine gx_iconst X 31 32 (0) dX6_people_31 rfl ci_0 ?_
    refine gx_iload_n X 32 33 0 dX6_people_32 rfl rfl rfl ?_
    refine gx_calliV X 33 36 0 (rest := []) (As := [.ref (adr 29), .int 0, .int x3]) (tX6_enlistAll hJ 29 30 0 x3 (by decide) rfl m4) (by decide) rfl rfl wc_X6_enlistAll wl_X6_116 wi_X6_enlistAll ws_X6_enlistAll wn_X6 rfl hd_X6_enlistAll ⟨Nat.le_of_ble_eq_true rfl, Nat.le_of_ble_eq_true rfl⟩ ⟨rfl, rfl⟩ rfl rfl (Nat.le_of_ble_eq_true rfl) dX6_people_33 rfl (fun x5 m6 => ?_)
    exact gx_iret X 36 hr dX6_people_36
  refine gx_iload_n X 24 25 0 dX6_people_24 rfl rfl rfl ?_
  exact gx_iret X 25 hr dX6_people_25
def fX6_count_L30 (k_86 : Int32 → Int32 → Mm → Aa) (rec_30 : Int32 → Int32 → Int32 → Mm → Aa) (x10 : Int32) (x11 : Int32) (x12 : Int32) (m13 : Mm) : Aa := if (m13 1 1) ≤ x12 then (k_86 x10 x11 m13) else (mm_ck x12 10 (mm_ck 4 7 (mm_lt (x10 + (m13 ((4 + x12.toNatClampNeg)) (4 : Int32).toNatClampNeg)) (fun (x15 : Int32) => mm_ck x12 10 (mm_ck 1 7 (mm_lt (fun (x17 : Int32) (m18 : Mm) => mm_lt (x11 + x17) (fun (x19 : Int32) => mm_lt (x12 + 1) (fun (x20 : Int32) => rec_30 x15 x19 x20 m18))) (fun (k_78 : Int32 → Mm → Aa) => if (m13 ((4 + x12.toNatClampNeg)) (1 : Int32).toNatClampNeg) = 0 then (k_78 1 m13) else (k_78 0 m13))))))))
def fX6_count (a1 : Int32) (μ : Mm) : Aa := mm_lt (fun (m1 : Mm) => some ((-1), m1)) (fun (k_9 : Mm → Aa) => if a1 < 0 then (k_9 μ) else (if a1 ≤ 2 then (if a1 = 0 then (some (μ 1 1, μ)) else (mm_lt 0 (fun (x2 : Int32) => mm_lt 0 (fun (x3 : Int32) => mm_lt 0 (fun (x4 : Int32) => mm_lt (fun (x5 : Int32) (x6 : Int32) (m7 : Mm) => mm_lt (fun (x8 : Int32) (m9 : Mm) => some (x8, m9)) (fun (k_96 : Int32 → Mm → Aa) => if a1 = 1 then (k_96 x5 m7) else (k_96 x6 m7))) (fun (k_86 : Int32 → Int32 → Mm → Aa) => mm_lk (fun (_ : Int32) (_ : Int32) (_ : Int32) (_ : Mm) => (none : Aa)) (fX6_count_L30 k_86) mm_fu x2 x3 x4 μ)))))) else (k_9 μ)))
abbrev rX6_count : Room := { frames := 0, cells := 0, slots := 0, locals := 0 }
set_option maxRecDepth 100000 in
set_option maxHeartbeats 8000000 in
theorem tX6_count {l : Launch} {D : va_G} {cA : Nat → ClassId} {adr : Nat → Nat} {tt sK sV : Nat → Nat} {qv : Value} (hJ : mm_J adr NX) (a1 : Int32) (μ : Mm) : mm_Mi l D cA adr sX NX (mm_SX (mm_A adr NX) tt sK sV qv) yX6_count cX6_count 5 (some .int) rX6_count [.ref (adr 0), .int a1] μ (fX6_count a1 μ) := by
  refine mm_entryi hJ mm_okX (by decide) (Nat.le_of_ble_eq_true rfl) ⟨rfl, rfl⟩ (fun p e s m below meth c X hr => ?_)
  generalize ([.ref (adr 0), .int a1] : List Value).toArray = args at X ⊢
  refine gx_lv (lv' := [(0, .ref (adr 0)), (1, .int a1)]) rfl ?_
  unfold fX6_count
  refine gx_iload_n X 0 1 1 dX6_count_0 rfl rfl rfl ?_
  refine gx_jn (fun (k : Mm → Aa) => ∀ (m1 : Mm), mm_G p l e rX6_count s m args below meth c 5 D cA adr sX NX (mm_Qi D cA adr sX NX) m1 9 [] [] (k m1)) ?_ (fun k_9 hk_9 => ?_)
  · intro m1
    refine gx_iconst X 9 10 (-1) dX6_count_9 rfl ci_m1 ?_
    exact gx_iret X 10 hr dX6_count_10
  refine gx_if_lt X 1 9 4 dX6_count_1 rfl rfl ?_ ?_
  · refine gx_sub [] rfl ?_
    exact hk_9 μ
  refine gx_iload_n X 4 5 1 dX6_count_4 rfl rfl rfl ?_
  refine gx_iconst X 5 6 (2) dX6_count_5 rfl ci_2 ?_
  refine gx_icmp_le X 6 11 9 dX6_count_6 rfl rfl ?_ ?_
  · refine gx_iload_n X 11 12 1 dX6_count_11 rfl rfl rfl ?_
    refine gx_if_ne X 12 23 15 dX6_count_12 rfl rfl ?_ ?_
    · refine gx_iconst X 23 24 (0) dX6_count_23 rfl ci_0 ?_
      refine gx_istore_n X 24 25 (fun x2 => [(2, .int x2), (0, .ref (adr 0)), (1, .int a1)]) dX6_count_24 rfl rfl (by decide) (fun _ => rfl) (fun x2 => ?_)
      refine gx_iconst X 25 26 (0) dX6_count_25 rfl ci_0 ?_
      refine gx_istore_n X 26 27 (fun x3 => [(3, .int x3), (2, .int x2), (0, .ref (adr 0)), (1, .int a1)]) dX6_count_26 rfl rfl (by decide) (fun _ => rfl) (fun x3 => ?_)
      refine gx_iconst X 27 28 (0) dX6_count_27 rfl ci_0 ?_
      refine gx_istore X 28 30 (fun x4 => [(4, .int x4), (3, .int x3), (2, .int x2), (0, .ref (adr 0)), (1, .int a1)]) dX6_count_28 rfl (by decide) (fun _ => rfl) (fun x4 => ?_)
      refine gx_jn (fun (k : Int32 → Int32 → Mm → Aa) => ∀ (x5 : Int32) (x6 : Int32) (m7 : Mm), mm_G p l e rX6_count s m args below meth c 5 D cA adr sX NX (mm_Qi D cA adr sX NX) m7 86 [(1, .int a1), (2, .int x5), (3, .int x6)] [] (k x5 x6 m7)) ?_ (fun k_86 hk_86 => ?_)
      · intro x5 x6 m7
        refine gx_iload_n X 86 87 0 dX6_count_86 rfl rfl rfl ?_
        refine gx_iconst X 87 88 (1) dX6_count_87 rfl ci_1 ?_
        refine gx_jn (fun (k : Int32 → Mm → Aa) => ∀ (x8 : Int32) (m9 : Mm), mm_G p l e rX6_count s m args below meth c 5 D cA adr sX NX (mm_Qi D cA adr sX NX) m9 96 [] [.int x8] (k x8 m9)) ?_ (fun k_96 hk_96 => ?_)
        · intro x8 m9
          exact gx_iret X 96 hr dX6_count_96
        refine gx_icmp_ne X 88 95 91 dX6_count_88 rfl rfl ?_ ?_
        · refine gx_iload_n X 95 96 2 dX6_count_95 rfl rfl rfl ?_
          refine gx_sub [] rfl ?_
          exact hk_96 x6 m7
        refine gx_iload_n X 91 92 1 dX6_count_91 rfl rfl rfl ?_
        refine gx_goto X 92 96 dX6_count_92 rfl ?_
        refine gx_sub [] rfl ?_
        exact hk_96 x5 m7
      refine gx_sub [3, 4, 2, 1, 0] rfl ?_
      refine mm_lk_ind (fun (rec : Int32 → Int32 → Int32 → Mm → Aa) => ∀ (x10 : Int32) (x11 : Int32) (x12 : Int32) (m13 : Mm), mm_G p l e rX6_count s m args below meth c 5 D cA adr sX NX (mm_Qi D cA adr sX NX) m13 30 [(0, .ref (adr 0)), (1, .int a1), (2, .int x10), (3, .int x11), (4, .int x12)] [] (rec x10 x11 x12 m13)) (fun _ _ _ _ => gx_none) (fun rec_30 hr_30 x10 x11 x12 m13 => ?_) mm_fu x2 x3 x4 μ
      unfold fX6_count_L30
      refine gx_iload X 30 32 4 dX6_count_30 rfl rfl ?_
      refine gx_aload_n X 32 33 0 dX6_count_32 rfl rfl rfl ?_
      refine gx_getR X 33 36 0 (by decide) rfl rfl fg_X6_10 dX6_count_33 rfl ?_
      refine gx_getI X 36 39 1 (by decide) rfl rfl fg_X6_80 dX6_count_36 rfl ?_
      refine gx_icmp_ge X 39 86 42 dX6_count_39 rfl rfl ?_ ?_
      · refine gx_sub [1, 2, 3] rfl ?_
        exact hk_86 x10 x11 m13
      refine gx_iload_n X 42 43 2 dX6_count_42 rfl rfl rfl ?_
      refine gx_aload_n X 43 44 0 dX6_count_43 rfl rfl rfl ?_
      refine gx_getR X 44 47 0 (by decide) rfl rfl fg_X6_10 dX6_count_44 rfl ?_
      refine gx_getR X 47 50 1 (by decide) rfl rfl fg_X6_90 dX6_count_47 rfl ?_
      refine gx_iload X 50 52 4 dX6_count_50 rfl rfl ?_
      refine gx_aaload X 52 53 3 (by decide) rfl rfl rfl dX6_count_52 rfl (fun h14 => ?_)
      refine gx_iconst X 53 54 (4) dX6_count_53 rfl ci_4 ?_
      refine gx_iaload X 54 55 ((4 + x12.toNatClampNeg)) (sX_fl h14) (sX_f h14) dX6_count_54 rfl ?_
      refine gx_iadd X 55 56 dX6_count_55 rfl ?_
      refine gx_istore_n X 56 57 (fun x15 => [(2, .int x15), (0, .ref (adr 0)), (1, .int a1), (3, .int x11), (4, .int x12)]) dX6_count_56 rfl rfl (by decide) (fun _ => rfl) (fun x15 => ?_)
      refine gx_iload_n X 57 58 3 dX6_count_57 rfl rfl rfl ?_
      refine gx_aload_n X 58 59 1 dX6_count_58 rfl rfl rfl ?_
      refine gx_getR X 59 62 0 (by decide) rfl rfl fg_X6_10 dX6_count_59 rfl ?_
      refine gx_getR X 62 65 1 (by decide) rfl rfl fg_X6_90 dX6_count_62 rfl ?_
      refine gx_iload X 65 67 4 dX6_count_65 rfl rfl ?_
      refine gx_aaload X 67 68 3 (by decide) rfl rfl rfl dX6_count_67 rfl (fun h16 => ?_)
      refine gx_iconst X 68 69 (1) dX6_count_68 rfl ci_1 ?_
      refine gx_iaload X 69 70 ((4 + x12.toNatClampNeg)) (sX_fl h16) (sX_f h16) dX6_count_69 rfl ?_
      refine gx_jn (fun (k : Int32 → Mm → Aa) => ∀ (x17 : Int32) (m18 : Mm), mm_G p l e rX6_count s m args below meth c 5 D cA adr sX NX (mm_Qi D cA adr sX NX) m18 78 [(0, .ref (adr 0)), (1, .int a1), (2, .int x15), (4, .int x12)] [.int x17, .int x11] (k x17 m18)) ?_ (fun k_78 hk_78 => ?_)
      · intro x17 m18
        refine gx_iadd X 78 79 dX6_count_78 rfl ?_
        refine gx_istore_n X 79 80 (fun x19 => [(3, .int x19), (0, .ref (adr 0)), (1, .int a1), (2, .int x15), (4, .int x12)]) dX6_count_79 rfl rfl (by decide) (fun _ => rfl) (fun x19 => ?_)
        refine gx_iinc X 80 83 4 (1) (fun x20 => [(4, .int x20), (3, .int x19), (0, .ref (adr 0)), (1, .int a1), (2, .int x15)]) dX6_count_80 rfl rfl ci_1 (by decide) (fun _ => rfl) (fun x20 => ?_)
        refine gx_goto X 83 30 dX6_count_83 rfl ?_
        refine gx_sub [2, 3, 4, 1, 0] rfl ?_
        exact hr_30 x15 x19 x20 m18
      refine gx_if_ne X 70 77 73 dX6_count_70 rfl rfl ?_ ?_
      · refine gx_iconst X 77 78 (0) dX6_count_77 rfl ci_0 ?_
        refine gx_sub [1, 2, 0, 4] rfl ?_
        exact hk_78 0 m13
      refine gx_iconst X 73 74 (1) dX6_count_73 rfl ci_1 ?_
      refine gx_goto X 74 78 dX6_count_74 rfl ?_
      refine gx_sub [1, 2, 0, 4] rfl ?_
      exact hk_78 1 m13
    refine gx_aload_n X 15 16 0 dX6_count_15 rfl rfl rfl ?_
    refine gx_getR X 16 19 0 (by decide) rfl rfl fg_X6_10 dX6_count_16 rfl ?_
    refine gx_getI X 19 22 1 (by decide) rfl rfl fg_X6_80 dX6_count_19 rfl ?_
    exact gx_iret X 22 hr dX6_count_22
  refine gx_sub [] rfl ?_
  exact hk_9 μ
