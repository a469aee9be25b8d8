def fX5_begin (k0 : Nat) (μ : Mm) : Aa := mm_lt (mm_wr μ k0 8 0) (fun (m1 : Mm) => mm_lt (mm_wr m1 k0 9 (m1 k0 1)) (fun (m2 : Mm) => mm_lt (mm_wr m2 k0 11 (m2 k0 0)) (fun (m3 : Mm) => mm_lt (mm_wr m3 k0 10 0) (fun (m4 : Mm) => mm_lt (mm_wr m4 k0 12 0) (fun (m5 : Mm) => mm_lt (mm_wr m5 k0 13 (m5 k0 2)) (fun (m6 : Mm) => mm_lt (mm_wr m6 k0 14 1000) (fun (m7 : Mm) => mm_lt (mm_wr m7 k0 15 0) (fun (m8 : Mm) => mm_lt (mm_wr m8 k0 16 0) (fun (m9 : Mm) => mm_lt (mm_wr m9 k0 17 0) (fun (m10 : Mm) => some (0, m10)))))))))))
abbrev rX5_begin : Room := { frames := 0, cells := 0, slots := 0, locals := 0 }
set_option maxRecDepth 100000 in
set_option maxHeartbeats 8000000 in
theorem tX5_begin {l : Launch} {D : va_G} {cA : Nat → ClassId} {adr : Nat → Nat} {tt sK sV : Nat → Nat} {qv : Value} (hJ : mm_J adr NX) (k0 : Nat) (hk0 : k0 < NX) (hs0 : sX k0 = shW) (μ : Mm) : mm_Mv l D cA adr sX NX (mm_SX (mm_A adr NX) tt sK sV qv) yX5_begin cX5_begin 1 none rX5_begin [.ref (adr k0)] μ (fX5_begin k0 μ) := by
  refine mm_entryv hJ mm_okX (by decide) (Nat.le_of_ble_eq_true rfl) ⟨rfl, rfl⟩ (fun p e s m below meth c X hr => ?_)
  generalize ([.ref (adr k0)] : List Value).toArray = args at X ⊢
  refine gx_lv (lv' := [(0, .ref (adr k0))]) rfl ?_
  unfold fX5_begin
  refine gx_aload_n X 0 1 0 dX5_begin_0 rfl rfl rfl ?_
  refine gx_iconst X 1 2 (0) dX5_begin_1 rfl ci_0 ?_
  refine gx_putI X 2 5 k0 hk0 hs0 rfl fp_X5_9 dX5_begin_2 rfl (fun m1 => ?_)
  refine gx_aload_n X 5 6 0 dX5_begin_5 rfl rfl rfl ?_
  refine gx_aload_n X 6 7 0 dX5_begin_6 rfl rfl rfl ?_
  refine gx_getI X 7 10 k0 hk0 hs0 rfl fg_X5_15 dX5_begin_7 rfl ?_
  refine gx_putI X 10 13 k0 hk0 hs0 rfl fp_X5_18 dX5_begin_10 rfl (fun m2 => ?_)
  refine gx_aload_n X 13 14 0 dX5_begin_13 rfl rfl rfl ?_
  refine gx_aload_n X 14 15 0 dX5_begin_14 rfl rfl rfl ?_
  refine gx_getI X 15 18 k0 hk0 hs0 rfl fg_X5_21 dX5_begin_15 rfl ?_
  refine gx_putI X 18 21 k0 hk0 hs0 rfl fp_X5_24 dX5_begin_18 rfl (fun m3 => ?_)
  refine gx_aload_n X 21 22 0 dX5_begin_21 rfl rfl rfl ?_
  refine gx_iconst X 22 23 (0) dX5_begin_22 rfl ci_0 ?_
  refine gx_putI X 23 26 k0 hk0 hs0 rfl fp_X5_27 dX5_begin_23 rfl (fun m4 => ?_)
  refine gx_aload_n X 26 27 0 dX5_begin_26 rfl rfl rfl ?_
  refine gx_iconst X 27 28 (0) dX5_begin_27 rfl ci_0 ?_
  refine gx_putI X 28 31 k0 hk0 hs0 rfl fp_X5_30 dX5_begin_28 rfl (fun m5 => ?_)
  refine gx_aload_n X 31 32 0 dX5_begin_31 rfl rfl rfl ?_
  refine gx_aload_n X 32 33 0 dX5_begin_32 rfl rfl rfl ?_
  refine gx_getI X 33 36 k0 hk0 hs0 rfl fg_X5_33 dX5_begin_33 rfl ?_
  refine gx_putI X 36 39 k0 hk0 hs0 rfl fp_X5_36 dX5_begin_36 rfl (fun m6 => ?_)
  refine gx_aload_n X 39 40 0 dX5_begin_39 rfl rfl rfl ?_
  refine gx_sipush X 40 43 (1000) dX5_begin_40 rfl cs_1000 ?_
  refine gx_putI X 43 46 k0 hk0 hs0 rfl fp_X5_39 dX5_begin_43 rfl (fun m7 => ?_)
  refine gx_aload_n X 46 47 0 dX5_begin_46 rfl rfl rfl ?_
  refine gx_iconst X 47 48 (0) dX5_begin_47 rfl ci_0 ?_
  refine gx_putI X 48 51 k0 hk0 hs0 rfl fp_X5_42 dX5_begin_48 rfl (fun m8 => ?_)
  refine gx_aload_n X 51 52 0 dX5_begin_51 rfl rfl rfl ?_
  refine gx_iconst X 52 53 (0) dX5_begin_52 rfl ci_0 ?_
  refine gx_putI X 53 56 k0 hk0 hs0 rfl fp_X5_45 dX5_begin_53 rfl (fun m9 => ?_)
  refine gx_aload_n X 56 57 0 dX5_begin_56 rfl rfl rfl ?_
  refine gx_iconst X 57 58 (0) dX5_begin_57 rfl ci_0 ?_
  refine gx_putI X 58 61 k0 hk0 hs0 rfl fp_X5_48 dX5_begin_58 rfl (fun m10 => ?_)
  exact gx_vret X 61 hr dX5_begin_61
def fX5_isOnBridge (k0 : Nat) (μ : Mm) : Aa := mm_lt (fun (x1 : Int32) (m2 : Mm) => mm_bo x1 (some (x1, m2))) (fun (k_21 : Int32 → Mm → Aa) => mm_lt (fun (m3 : Mm) => k_21 1 m3) (fun (k_16 : Mm → Aa) => if (μ k0 8) = 1 then (k_16 μ) else (if (μ k0 8) = 2 then (k_16 μ) else (k_21 0 μ))))
abbrev rX5_isOnBridge : Room := { frames := 0, cells := 0, slots := 0, locals := 0 }
set_option maxRecDepth 100000 in
set_option maxHeartbeats 8000000 in
theorem tX5_isOnBridge {l : Launch} {D : va_G} {cA : Nat → ClassId} {adr : Nat → Nat} {tt sK sV : Nat → Nat} {qv : Value} (hJ : mm_J adr NX) (k0 : Nat) (hk0 : k0 < NX) (hs0 : sX k0 = shW) (μ : Mm) : mm_Mi l D cA adr sX NX (mm_SX (mm_A adr NX) tt sK sV qv) yX5_isOnBridge cX5_isOnBridge 1 (some .boolean) rX5_isOnBridge [.ref (adr k0)] μ (fX5_isOnBridge k0 μ) := by
  refine mm_entryi hJ mm_okX (by decide) (Nat.le_of_ble_eq_true rfl) ⟨rfl, rfl⟩ (fun p e s m below meth c X hr => ?_)
  generalize ([.ref (adr k0)] : List Value).toArray = args at X ⊢
  refine gx_lv (lv' := [(0, .ref (adr k0))]) rfl ?_
  unfold fX5_isOnBridge
  refine gx_aload_n X 0 1 0 dX5_isOnBridge_0 rfl rfl rfl ?_
  refine gx_getI X 1 4 k0 hk0 hs0 rfl fg_X5_9 dX5_isOnBridge_1 rfl ?_
  refine gx_iconst X 4 5 (1) dX5_isOnBridge_4 rfl ci_1 ?_
  refine gx_jn (fun (k : Int32 → Mm → Aa) => ∀ (x1 : Int32) (m2 : Mm), mm_G p l e rX5_isOnBridge s m args below meth c 1 D cA adr sX NX (mm_Qi D cA adr sX NX) m2 21 [] [.int x1] (k x1 m2)) ?_ (fun k_21 hk_21 => ?_)
  · intro x1 m2
    exact gx_zret X 21 hr dX5_isOnBridge_21
  refine gx_jn (fun (k : Mm → Aa) => ∀ (m3 : Mm), mm_G p l e rX5_isOnBridge s m args below meth c 1 D cA adr sX NX (mm_Qi D cA adr sX NX) m3 16 [] [] (k m3)) ?_ (fun k_16 hk_16 => ?_)
  · intro m3
    refine gx_iconst X 16 17 (1) dX5_isOnBridge_16 rfl ci_1 ?_
    refine gx_goto X 17 21 dX5_isOnBridge_17 rfl ?_
    exact hk_21 1 m3
  refine gx_icmp_eq X 5 16 8 dX5_isOnBridge_5 rfl rfl ?_ ?_
  · refine gx_sub [] rfl ?_
    exact hk_16 μ
  refine gx_aload_n X 8 9 0 dX5_isOnBridge_8 rfl rfl rfl ?_
  refine gx_getI X 9 12 k0 hk0 hs0 rfl fg_X5_9 dX5_isOnBridge_9 rfl ?_
  refine gx_iconst X 12 13 (2) dX5_isOnBridge_12 rfl ci_2 ?_
  refine gx_icmp_ne X 13 20 16 dX5_isOnBridge_13 rfl rfl ?_ ?_
  · refine gx_iconst X 20 21 (0) dX5_isOnBridge_20 rfl ci_0 ?_
    refine gx_sub [] rfl ?_
    exact hk_21 0 μ
  refine gx_sub [] rfl ?_
  exact hk_16 μ
def fX5_nextTurn (k0 : Nat) (a1 : Int32) (a2 : Int32) (μ : Mm) : Aa := mm_lt (fun (m1 : Mm) => some (if (a1 + 1) < (m1 k0 11) then (m1 k0 11) else (a1 + 1), m1)) (fun (k_56 : Mm → Aa) => mm_lt (fun (m2 : Mm) => some (1000, m2)) (fun (k_67 : Mm → Aa) => if (μ k0 8) = 0 then (k_56 μ) else (if (μ k0 8) = 1 then (mm_cl (fX6_cutUp (a2 - (μ k0 12)) (μ k0 13) μ) (fun (x3 : Int32) (m4 : Mm) => some (a1 + (if 1 < x3 then x3 else 1), m4))) else (if (μ k0 8) = 2 then (k_67 μ) else (if (μ k0 8) = 3 then (k_56 μ) else (k_67 μ))))))
abbrev rX5_nextTurn : Room := { frames := 1, cells := 0, slots := 0, locals := 21 }
set_option maxRecDepth 100000 in
set_option maxHeartbeats 8000000 in
theorem tX5_nextTurn {l : Launch} {D : va_G} {cA : Nat → ClassId} {adr : Nat → Nat} {tt sK sV : Nat → Nat} {qv : Value} (hJ : mm_J adr NX) (k0 : Nat) (a1 : Int32) (a2 : Int32) (hk0 : k0 < NX) (hs0 : sX k0 = shW) (μ : Mm) : mm_Mi l D cA adr sX NX (mm_SX (mm_A adr NX) tt sK sV qv) yX5_nextTurn cX5_nextTurn 3 (some .int) rX5_nextTurn [.ref (adr k0), .int a1, .int a2] μ (fX5_nextTurn k0 a1 a2 μ) := by
  refine mm_entryi hJ mm_okX (by decide) (Nat.le_of_ble_eq_true rfl) ⟨rfl, rfl⟩ (fun p e s m below meth c X hr => ?_)
  generalize ([.ref (adr k0), .int a1, .int a2] : List Value).toArray = args at X ⊢
  refine gx_lv (lv' := [(0, .ref (adr k0)), (1, .int a1), (2, .int a2)]) rfl ?_
  unfold fX5_nextTurn
  refine gx_aload_n X 0 1 0 dX5_nextTurn_0 rfl rfl rfl ?_
  refine gx_getI X 1 4 k0 hk0 hs0 rfl fg_X5_9 dX5_nextTurn_1 rfl ?_
  refine gx_jn (fun (k : Mm → Aa) => ∀ (m1 : Mm), mm_G p l e rX5_nextTurn s m args below meth c 3 D cA adr sX NX (mm_Qi D cA adr sX NX) m1 56 [(0, .ref (adr k0)), (1, .int a1)] [] (k m1)) ?_ (fun k_56 hk_56 => ?_)
  · intro m1
    refine gx_iload_n X 56 57 1 dX5_nextTurn_56 rfl rfl rfl ?_
    refine gx_iconst X 57 58 (1) dX5_nextTurn_57 rfl ci_1 ?_
    refine gx_iadd X 58 59 dX5_nextTurn_58 rfl ?_
    refine gx_aload_n X 59 60 0 dX5_nextTurn_59 rfl rfl rfl ?_
    refine gx_getI X 60 63 k0 hk0 hs0 rfl fg_X5_24 dX5_nextTurn_60 rfl ?_
    refine gx_mmax X 63 66 wl_X5_55 wt_Mmax wn_J9 wc_Mmax (by decide) (Nat.le_of_ble_eq_true rfl) dX5_nextTurn_63 rfl ?_
    exact gx_iret X 66 hr dX5_nextTurn_66
  refine gx_jn (fun (k : Mm → Aa) => ∀ (m2 : Mm), mm_G p l e rX5_nextTurn s m args below meth c 3 D cA adr sX NX (mm_Qi D cA adr sX NX) m2 67 [] [] (k m2)) ?_ (fun k_67 hk_67 => ?_)
  · intro m2
    refine gx_sipush X 67 70 (1000) dX5_nextTurn_67 rfl cs_1000 ?_
    exact gx_iret X 70 hr dX5_nextTurn_70
  refine gx_if (fun hc4_0 => ?_) (fun hc4_0 => ?_)
  · refine gx_tabIn X 4 56 (0) (off := 52) hc4_0 dX5_nextTurn_4 (by decide) (by decide) (by decide) rfl ?_
    refine gx_sub [0, 1] rfl ?_
    exact hk_56 μ
  refine gx_if (fun hc4_1 => ?_) (fun hc4_1 => ?_)
  · refine gx_tabIn X 4 36 (1) (off := 32) hc4_1 dX5_nextTurn_4 (by decide) (by decide) (by decide) rfl ?_
    refine gx_iload_n X 36 37 1 dX5_nextTurn_36 rfl rfl rfl ?_
    refine gx_iconst X 37 38 (1) dX5_nextTurn_37 rfl ci_1 ?_
    refine gx_iload_n X 38 39 2 dX5_nextTurn_38 rfl rfl rfl ?_
    refine gx_aload_n X 39 40 0 dX5_nextTurn_39 rfl rfl rfl ?_
    refine gx_getI X 40 43 k0 hk0 hs0 rfl fg_X5_30 dX5_nextTurn_40 rfl ?_
    refine gx_isub X 43 44 dX5_nextTurn_43 rfl ?_
    refine gx_aload_n X 44 45 0 dX5_nextTurn_44 rfl rfl rfl ?_
    refine gx_getI X 45 48 k0 hk0 hs0 rfl fg_X5_36 dX5_nextTurn_45 rfl ?_
    refine gx_calliN X 48 51 (rest := [.int 1, .int a1]) (As := [.int (a2 - (μ k0 12)), .int (μ k0 13)]) (tX6_cutUp hJ (a2 - (μ k0 12)) (μ k0 13) μ) wc_X6_cutUp (mm_nest X (List.mem_of_getElem? (i := 4) rfl)) wt_X6_cutUp wn_X6 hd_X6_cutUp ⟨Nat.le_of_ble_eq_true rfl, Nat.le_of_ble_eq_true rfl⟩ ⟨rfl, rfl⟩ rfl rfl (Nat.le_of_ble_eq_true rfl) dX5_nextTurn_48 rfl (fun x3 m4 => ?_)
    refine gx_mmax X 51 54 wl_X5_55 wt_Mmax wn_J9 wc_Mmax (by decide) (Nat.le_of_ble_eq_true rfl) dX5_nextTurn_51 rfl ?_
    refine gx_iadd X 54 55 dX5_nextTurn_54 rfl ?_
    exact gx_iret X 55 hr dX5_nextTurn_55
  refine gx_if (fun hc4_2 => ?_) (fun hc4_2 => ?_)
  · refine gx_tabIn X 4 67 (2) (off := 63) hc4_2 dX5_nextTurn_4 (by decide) (by decide) (by decide) rfl ?_
    refine gx_sub [] rfl ?_
    exact hk_67 μ
  refine gx_if (fun hc4_3 => ?_) (fun hc4_3 => ?_)
  · refine gx_tabIn X 4 56 (3) (off := 52) hc4_3 dX5_nextTurn_4 (by decide) (by decide) (by decide) rfl ?_
    refine gx_sub [0, 1] rfl ?_
    exact hk_56 μ
  refine gx_tabOut X 4 67 dX5_nextTurn_4 (by have ghc4_0 := mm_neI 0 (by decide) hc4_0; have ghc4_1 := mm_neI 1 (by decide) hc4_1; have ghc4_2 := mm_neI 2 (by decide) hc4_2; have ghc4_3 := mm_neI 3 (by decide) hc4_3; omega) rfl ?_
  refine gx_sub [] rfl ?_
  exact hk_67 μ
def fX5_pass (k0 : Nat) (a1 : Int32) (μ : Mm) : Aa := mm_lt (fun (m1 : Mm) => some (0, m1)) (fun (k_44 : Mm → Aa) => if (μ k0 8) = 1 then (mm_lt (mm_wr μ k0 12 ((μ k0 12) + ((μ k0 13) * a1))) (fun (m3 : Mm) => k_44 m3)) else (if (μ k0 8) = 2 then (mm_lt (mm_wr μ k0 16 ((μ k0 16) + a1)) (fun (m2 : Mm) => k_44 m2)) else (k_44 μ)))
abbrev rX5_pass : Room := { frames := 0, cells := 0, slots := 0, locals := 0 }
set_option maxRecDepth 100000 in
set_option maxHeartbeats 8000000 in
theorem tX5_pass {l : Launch} {D : va_G} {cA : Nat → ClassId} {adr : Nat → Nat} {tt sK sV : Nat → Nat} {qv : Value} (hJ : mm_J adr NX) (k0 : Nat) (a1 : Int32) (hk0 : k0 < NX) (hs0 : sX k0 = shW) (μ : Mm) : mm_Mv l D cA adr sX NX (mm_SX (mm_A adr NX) tt sK sV qv) yX5_pass cX5_pass 2 none rX5_pass [.ref (adr k0), .int a1] μ (fX5_pass k0 a1 μ) := by
  refine mm_entryv hJ mm_okX (by decide) (Nat.le_of_ble_eq_true rfl) ⟨rfl, rfl⟩ (fun p e s m below meth c X hr => ?_)
  generalize ([.ref (adr k0), .int a1] : List Value).toArray = args at X ⊢
  refine gx_lv (lv' := [(0, .ref (adr k0)), (1, .int a1)]) rfl ?_
  unfold fX5_pass
  refine gx_aload_n X 0 1 0 dX5_pass_0 rfl rfl rfl ?_
  refine gx_getI X 1 4 k0 hk0 hs0 rfl fg_X5_9 dX5_pass_1 rfl ?_
  refine gx_iconst X 4 5 (1) dX5_pass_4 rfl ci_1 ?_
  refine gx_jn (fun (k : Mm → Aa) => ∀ (m1 : Mm), mm_G p l e rX5_pass s m args below meth c 2 D cA adr sX NX (mm_Qv D cA adr sX NX) m1 44 [] [] (k m1)) ?_ (fun k_44 hk_44 => ?_)
  · intro m1
    exact gx_vret X 44 hr dX5_pass_44
  refine gx_icmp_ne X 5 26 8 dX5_pass_5 rfl rfl ?_ ?_
  · refine gx_aload_n X 26 27 0 dX5_pass_26 rfl rfl rfl ?_
    refine gx_getI X 27 30 k0 hk0 hs0 rfl fg_X5_9 dX5_pass_27 rfl ?_
    refine gx_iconst X 30 31 (2) dX5_pass_30 rfl ci_2 ?_
    refine gx_icmp_ne X 31 44 34 dX5_pass_31 rfl rfl ?_ ?_
    · refine gx_sub [] rfl ?_
      exact hk_44 μ
    refine gx_aload_n X 34 35 0 dX5_pass_34 rfl rfl rfl ?_
    refine gx_dup X 35 36 dX5_pass_35 rfl rfl ?_
    refine gx_getI X 36 39 k0 hk0 hs0 rfl fg_X5_45 dX5_pass_36 rfl ?_
    refine gx_iload_n X 39 40 1 dX5_pass_39 rfl rfl rfl ?_
    refine gx_iadd X 40 41 dX5_pass_40 rfl ?_
    refine gx_putI X 41 44 k0 hk0 hs0 rfl fp_X5_45 dX5_pass_41 rfl (fun m2 => ?_)
    refine gx_sub [] rfl ?_
    exact hk_44 m2
  refine gx_aload_n X 8 9 0 dX5_pass_8 rfl rfl rfl ?_
  refine gx_dup X 9 10 dX5_pass_9 rfl rfl ?_
  refine gx_getI X 10 13 k0 hk0 hs0 rfl fg_X5_30 dX5_pass_10 rfl ?_
  refine gx_aload_n X 13 14 0 dX5_pass_13 rfl rfl rfl ?_
  refine gx_getI X 14 17 k0 hk0 hs0 rfl fg_X5_36 dX5_pass_14 rfl ?_
  refine gx_iload_n X 17 18 1 dX5_pass_17 rfl rfl rfl ?_
  refine gx_imul X 18 19 dX5_pass_18 rfl ?_
  refine gx_iadd X 19 20 dX5_pass_19 rfl ?_
  refine gx_putI X 20 23 k0 hk0 hs0 rfl fp_X5_30 dX5_pass_20 rfl (fun m3 => ?_)
  refine gx_goto X 23 44 dX5_pass_23 rfl ?_
  refine gx_sub [] rfl ?_
  exact hk_44 m3
def fX5_comeOver (k0 : Nat) (a1 : Int32) (μ : Mm) : Aa := mm_lt (mm_wr μ k0 10 ((μ k0 10) + 1)) (fun (m1 : Mm) => mm_lt (mm_wr m1 k0 9 (1 - (m1 k0 9))) (fun (m2 : Mm) => mm_lt (fun (m3 : Mm) => some (0, m3)) (fun (k_59 : Mm → Aa) => if (m2 k0 10) < (m2 k0 3) then (mm_lt (mm_wr m2 k0 8 0) (fun (m4 : Mm) => mm_lt (mm_wr m4 k0 11 (a1 + (m4 k0 4))) (fun (m5 : Mm) => k_59 m5))) else (mm_lt (mm_wr m2 k0 8 4) (fun (m6 : Mm) => mm_lt (mm_wr m6 k0 14 a1) (fun (m7 : Mm) => k_59 m7))))))
abbrev rX5_comeOver : Room := { frames := 0, cells := 0, slots := 0, locals := 0 }
set_option maxRecDepth 100000 in
set_option maxHeartbeats 8000000 in
theorem tX5_comeOver {l : Launch} {D : va_G} {cA : Nat → ClassId} {adr : Nat → Nat} {tt sK sV : Nat → Nat} {qv : Value} (hJ : mm_J adr NX) (k0 : Nat) (a1 : Int32) (hk0 : k0 < NX) (hs0 : sX k0 = shW) (μ : Mm) : mm_Mv l D cA adr sX NX (mm_SX (mm_A adr NX) tt sK sV qv) yX5_comeOver cX5_comeOver 2 none rX5_comeOver [.ref (adr k0), .int a1] μ (fX5_comeOver k0 a1 μ) := by
  refine mm_entryv hJ mm_okX (by decide) (Nat.le_of_ble_eq_true rfl) ⟨rfl, rfl⟩ (fun p e s m below meth c X hr => ?_)
  generalize ([.ref (adr k0), .int a1] : List Value).toArray = args at X ⊢
  refine gx_lv (lv' := [(0, .ref (adr k0)), (1, .int a1)]) rfl ?_
  unfold fX5_comeOver
  refine gx_aload_n X 0 1 0 dX5_comeOver_0 rfl rfl rfl ?_
  refine gx_dup X 1 2 dX5_comeOver_1 rfl rfl ?_
  refine gx_getI X 2 5 k0 hk0 hs0 rfl fg_X5_27 dX5_comeOver_2 rfl ?_
  refine gx_iconst X 5 6 (1) dX5_comeOver_5 rfl ci_1 ?_
  refine gx_iadd X 6 7 dX5_comeOver_6 rfl ?_
  refine gx_putI X 7 10 k0 hk0 hs0 rfl fp_X5_27 dX5_comeOver_7 rfl (fun m1 => ?_)
  refine gx_aload_n X 10 11 0 dX5_comeOver_10 rfl rfl rfl ?_
  refine gx_iconst X 11 12 (1) dX5_comeOver_11 rfl ci_1 ?_
  refine gx_aload_n X 12 13 0 dX5_comeOver_12 rfl rfl rfl ?_
  refine gx_getI X 13 16 k0 hk0 hs0 rfl fg_X5_18 dX5_comeOver_13 rfl ?_
  refine gx_isub X 16 17 dX5_comeOver_16 rfl ?_
  refine gx_putI X 17 20 k0 hk0 hs0 rfl fp_X5_18 dX5_comeOver_17 rfl (fun m2 => ?_)
  refine gx_aload_n X 20 21 0 dX5_comeOver_20 rfl rfl rfl ?_
  refine gx_getI X 21 24 k0 hk0 hs0 rfl fg_X5_27 dX5_comeOver_21 rfl ?_
  refine gx_aload_n X 24 25 0 dX5_comeOver_24 rfl rfl rfl ?_
  refine gx_getI X 25 28 k0 hk0 hs0 rfl fg_X5_60 dX5_comeOver_25 rfl ?_
  refine gx_jn (fun (k : Mm → Aa) => ∀ (m3 : Mm), mm_G p l e rX5_comeOver s m args below meth c 2 D cA adr sX NX (mm_Qv D cA adr sX NX) m3 59 [] [] (k m3)) ?_ (fun k_59 hk_59 => ?_)
  · intro m3
    exact gx_vret X 59 hr dX5_comeOver_59
  refine gx_icmp_lt X 28 44 31 dX5_comeOver_28 rfl rfl ?_ ?_
  · refine gx_aload_n X 44 45 0 dX5_comeOver_44 rfl rfl rfl ?_
    refine gx_iconst X 45 46 (0) dX5_comeOver_45 rfl ci_0 ?_
    refine gx_putI X 46 49 k0 hk0 hs0 rfl fp_X5_9 dX5_comeOver_46 rfl (fun m4 => ?_)
    refine gx_aload_n X 49 50 0 dX5_comeOver_49 rfl rfl rfl ?_
    refine gx_iload_n X 50 51 1 dX5_comeOver_50 rfl rfl rfl ?_
    refine gx_aload_n X 51 52 0 dX5_comeOver_51 rfl rfl rfl ?_
    refine gx_getI X 52 55 k0 hk0 hs0 rfl fg_X5_63 dX5_comeOver_52 rfl ?_
    refine gx_iadd X 55 56 dX5_comeOver_55 rfl ?_
    refine gx_putI X 56 59 k0 hk0 hs0 rfl fp_X5_24 dX5_comeOver_56 rfl (fun m5 => ?_)
    refine gx_sub [] rfl ?_
    exact hk_59 m5
  refine gx_aload_n X 31 32 0 dX5_comeOver_31 rfl rfl rfl ?_
  refine gx_iconst X 32 33 (4) dX5_comeOver_32 rfl ci_4 ?_
  refine gx_putI X 33 36 k0 hk0 hs0 rfl fp_X5_9 dX5_comeOver_33 rfl (fun m6 => ?_)
  refine gx_aload_n X 36 37 0 dX5_comeOver_36 rfl rfl rfl ?_
  refine gx_iload_n X 37 38 1 dX5_comeOver_37 rfl rfl rfl ?_
  refine gx_putI X 38 41 k0 hk0 hs0 rfl fp_X5_39 dX5_comeOver_38 rfl (fun m7 => ?_)
  refine gx_goto X 41 59 dX5_comeOver_41 rfl ?_
  refine gx_sub [] rfl ?_
  exact hk_59 m7
def fX5_startByFord (k0 : Nat) (a1 : Int32) (μ : Mm) : Aa := mm_lt (mm_wr μ k0 8 3) (fun (m1 : Mm) => mm_lt (mm_wr m1 k0 11 a1) (fun (m2 : Mm) => some (0, m2)))
abbrev rX5_startByFord : Room := { frames := 0, cells := 0, slots := 0, locals := 0 }
set_option maxRecDepth 100000 in
set_option maxHeartbeats 8000000 in
theorem tX5_startByFord {l : Launch} {D : va_G} {cA : Nat → ClassId} {adr : Nat → Nat} {tt sK sV : Nat → Nat} {qv : Value} (hJ : mm_J adr NX) (k0 : Nat) (a1 : Int32) (hk0 : k0 < NX) (hs0 : sX k0 = shW) (μ : Mm) : mm_Mv l D cA adr sX NX (mm_SX (mm_A adr NX) tt sK sV qv) yX5_startByFord cX5_startByFord 2 none rX5_startByFord [.ref (adr k0), .int a1] μ (fX5_startByFord k0 a1 μ) := by
  refine mm_entryv hJ mm_okX (by decide) (Nat.le_of_ble_eq_true rfl) ⟨rfl, rfl⟩ (fun p e s m below meth c X hr => ?_)
  generalize ([.ref (adr k0), .int a1] : List Value).toArray = args at X ⊢
  refine gx_lv (lv' := [(0, .ref (adr k0)), (1, .int a1)]) rfl ?_
  unfold fX5_startByFord
  refine gx_aload_n X 0 1 0 dX5_startByFord_0 rfl rfl rfl ?_
  refine gx_iconst X 1 2 (3) dX5_startByFord_1 rfl ci_3 ?_
  refine gx_putI X 2 5 k0 hk0 hs0 rfl fp_X5_9 dX5_startByFord_2 rfl (fun m1 => ?_)
  refine gx_aload_n X 5 6 0 dX5_startByFord_5 rfl rfl rfl ?_
  refine gx_iload_n X 6 7 1 dX5_startByFord_6 rfl rfl rfl ?_
  refine gx_putI X 7 10 k0 hk0 hs0 rfl fp_X5_24 dX5_startByFord_7 rfl (fun m2 => ?_)
  exact gx_vret X 10 hr dX5_startByFord_10
def fX5_stepOn (k0 : Nat) (a1 : Int32) (μ : Mm) : Aa := mm_lt (mm_wr μ k0 8 1) (fun (m1 : Mm) => mm_lt (mm_wr m1 k0 12 0) (fun (m2 : Mm) => mm_lt (fun (x3 : Int32) (m4 : Mm) => mm_lt (mm_wr m4 k0 13 x3) (fun (m5 : Mm) => mm_lt (fun (x6 : Int32) (m7 : Mm) => mm_lt (mm_wr m7 k0 17 ((m5 k0 17) + x6)) (fun (m8 : Mm) => some (0, m8))) (fun (k_46 : Int32 → Mm → Aa) => if a1 = 0 then (k_46 1 m5) else (k_46 0 m5)))) (fun (k_29 : Int32 → Mm → Aa) => if a1 = 0 then (mm_cl (fX6_half (m2 k0 2) m2) (fun (x9 : Int32) (m10 : Mm) => k_29 x9 m10)) else (k_29 (m2 k0 2) m2))))
abbrev rX5_stepOn : Room := { frames := 2, cells := 0, slots := 0, locals := 41 }
set_option maxRecDepth 100000 in
set_option maxHeartbeats 8000000 in
theorem tX5_stepOn {l : Launch} {D : va_G} {cA : Nat → ClassId} {adr : Nat → Nat} {tt sK sV : Nat → Nat} {qv : Value} (hJ : mm_J adr NX) (k0 : Nat) (a1 : Int32) (hk0 : k0 < NX) (hs0 : sX k0 = shW) (μ : Mm) : mm_Mv l D cA adr sX NX (mm_SX (mm_A adr NX) tt sK sV qv) yX5_stepOn cX5_stepOn 2 none rX5_stepOn [.ref (adr k0), .int a1] μ (fX5_stepOn k0 a1 μ) := by
  refine mm_entryv hJ mm_okX (by decide) (Nat.le_of_ble_eq_true rfl) ⟨rfl, rfl⟩ (fun p e s m below meth c X hr => ?_)
  generalize ([.ref (adr k0), .int a1] : List Value).toArray = args at X ⊢
  refine gx_lv (lv' := [(0, .ref (adr k0)), (1, .int a1)]) rfl ?_
  unfold fX5_stepOn
  refine gx_aload_n X 0 1 0 dX5_stepOn_0 rfl rfl rfl ?_
  refine gx_iconst X 1 2 (1) dX5_stepOn_1 rfl ci_1 ?_
  refine gx_putI X 2 5 k0 hk0 hs0 rfl fp_X5_9 dX5_stepOn_2 rfl (fun m1 => ?_)
  refine gx_aload_n X 5 6 0 dX5_stepOn_5 rfl rfl rfl ?_
  refine gx_iconst X 6 7 (0) dX5_stepOn_6 rfl ci_0 ?_
  refine gx_putI X 7 10 k0 hk0 hs0 rfl fp_X5_30 dX5_stepOn_7 rfl (fun m2 => ?_)
  refine gx_aload_n X 10 11 0 dX5_stepOn_10 rfl rfl rfl ?_
  refine gx_iload_n X 11 12 1 dX5_stepOn_11 rfl rfl rfl ?_
  refine gx_jn (fun (k : Int32 → Mm → Aa) => ∀ (x3 : Int32) (m4 : Mm), mm_G p l e rX5_stepOn s m args below meth c 2 D cA adr sX NX (mm_Qv D cA adr sX NX) m4 29 [(0, .ref (adr k0)), (1, .int a1)] [.int x3, .ref (adr k0)] (k x3 m4)) ?_ (fun k_29 hk_29 => ?_)
  · intro x3 m4
    refine gx_putI X 29 32 k0 hk0 hs0 rfl fp_X5_36 dX5_stepOn_29 rfl (fun m5 => ?_)
    refine gx_aload_n X 32 33 0 dX5_stepOn_32 rfl rfl rfl ?_
    refine gx_dup X 33 34 dX5_stepOn_33 rfl rfl ?_
    refine gx_getI X 34 37 k0 hk0 hs0 rfl fg_X5_48 dX5_stepOn_34 rfl ?_
    refine gx_iload_n X 37 38 1 dX5_stepOn_37 rfl rfl rfl ?_
    refine gx_jn (fun (k : Int32 → Mm → Aa) => ∀ (x6 : Int32) (m7 : Mm), mm_G p l e rX5_stepOn s m args below meth c 2 D cA adr sX NX (mm_Qv D cA adr sX NX) m7 46 [] [.int x6, .int (m5 k0 17), .ref (adr k0)] (k x6 m7)) ?_ (fun k_46 hk_46 => ?_)
    · intro x6 m7
      refine gx_iadd X 46 47 dX5_stepOn_46 rfl ?_
      refine gx_putI X 47 50 k0 hk0 hs0 rfl fp_X5_48 dX5_stepOn_47 rfl (fun m8 => ?_)
      exact gx_vret X 50 hr dX5_stepOn_50
    refine gx_if_eq X 38 45 41 dX5_stepOn_38 rfl rfl ?_ ?_
    · refine gx_iconst X 45 46 (1) dX5_stepOn_45 rfl ci_1 ?_
      refine gx_sub [] rfl ?_
      exact hk_46 1 m5
    refine gx_iconst X 41 42 (0) dX5_stepOn_41 rfl ci_0 ?_
    refine gx_goto X 42 46 dX5_stepOn_42 rfl ?_
    refine gx_sub [] rfl ?_
    exact hk_46 0 m5
  refine gx_if_eq X 12 22 15 dX5_stepOn_12 rfl rfl ?_ ?_
  · refine gx_aload_n X 22 23 0 dX5_stepOn_22 rfl rfl rfl ?_
    refine gx_getI X 23 26 k0 hk0 hs0 rfl fg_X5_33 dX5_stepOn_23 rfl ?_
    refine gx_calliN X 26 29 (rest := [.ref (adr k0)]) (As := [.int (m2 k0 2)]) (tX6_half hJ (m2 k0 2) m2) wc_X6_half (mm_nest X (List.mem_of_getElem? (i := 3) rfl)) wt_X6_half wn_X6 hd_X6_half ⟨Nat.le_of_ble_eq_true rfl, Nat.le_of_ble_eq_true rfl⟩ ⟨rfl, rfl⟩ rfl rfl (Nat.le_of_ble_eq_true rfl) dX5_stepOn_26 rfl (fun x9 m10 => ?_)
    exact hk_29 x9 m10
  refine gx_aload_n X 15 16 0 dX5_stepOn_15 rfl rfl rfl ?_
  refine gx_getI X 16 19 k0 hk0 hs0 rfl fg_X5_33 dX5_stepOn_16 rfl ?_
  refine gx_goto X 19 29 dX5_stepOn_19 rfl ?_
  exact hk_29 (m2 k0 2) m2
def fX0_loadBridge (a2 : Int32) (μ : Mm) : Aa := mm_lt (mm_wr μ 30 6 (if 10 < a2 then 10 else a2)) (fun (m1 : Mm) => mm_lt (mm_wr m1 30 7 (m1 1 0)) (fun (m2 : Mm) => mm_ac 0 0 6 6 6 (mm_lt (mm_cp m2 2 32 (0 : Int32).toNatClampNeg (0 : Int32).toNatClampNeg (6 : Int32).toNatClampNeg) (fun (m3 : Mm) => some (0, m3)))))
abbrev rX0_loadBridge : Room := { frames := 1, cells := 0, slots := 0, locals := 26 }
set_option maxRecDepth 100000 in
set_option maxHeartbeats 8000000 in
theorem tX0_loadBridge {l : Launch} {D : va_G} {cA : Nat → ClassId} {adr : Nat → Nat} {tt sK sV : Nat → Nat} {qv : Value} (hJ : mm_J adr NX) (a2 : Int32) (μ : Mm) : mm_Mv l D cA adr sX NX (mm_SX (mm_A adr NX) tt sK sV qv) yX0_loadBridge cX0_loadBridge 3 none rX0_loadBridge [.ref (adr 30), .ref (adr 1), .int a2] μ (fX0_loadBridge a2 μ) := by
  refine mm_entryv hJ mm_okX (by decide) (Nat.le_of_ble_eq_true rfl) ⟨rfl, rfl⟩ (fun p e s m below meth c X hr => ?_)
  generalize ([.ref (adr 30), .ref (adr 1), .int a2] : List Value).toArray = args at X ⊢
  refine gx_lv (lv' := [(0, .ref (adr 30)), (1, .ref (adr 1)), (2, .int a2)]) rfl ?_
  unfold fX0_loadBridge
  refine gx_aload_n X 0 1 0 dX0_loadBridge_0 rfl rfl rfl ?_
  refine gx_iload_n X 1 2 2 dX0_loadBridge_1 rfl rfl rfl ?_
  refine gx_bipush X 2 4 (10) dX0_loadBridge_2 rfl cb_10 ?_
  refine gx_mmin X 4 7 wl_X0_62 wt_Mmin wn_J9 wc_Mmin (by decide) (Nat.le_of_ble_eq_true rfl) dX0_loadBridge_4 rfl ?_
  refine gx_putI X 7 10 30 (by decide) rfl rfl fp_X0_38 dX0_loadBridge_7 rfl (fun m1 => ?_)
  refine gx_aload_n X 10 11 0 dX0_loadBridge_10 rfl rfl rfl ?_
  refine gx_aload_n X 11 12 1 dX0_loadBridge_11 rfl rfl rfl ?_
  refine gx_getI X 12 15 1 (by decide) rfl rfl fg_X0_68 dX0_loadBridge_12 rfl ?_
  refine gx_putI X 15 18 30 (by decide) rfl rfl fp_X0_71 dX0_loadBridge_15 rfl (fun m2 => ?_)
  refine gx_aload_n X 18 19 1 dX0_loadBridge_18 rfl rfl rfl ?_
  refine gx_getR X 19 22 1 (by decide) rfl rfl fg_X0_72 dX0_loadBridge_19 rfl ?_
  refine gx_iconst X 22 23 (0) dX0_loadBridge_22 rfl ci_0 ?_
  refine gx_aload_n X 23 24 0 dX0_loadBridge_23 rfl rfl rfl ?_
  refine gx_getR X 24 27 30 (by decide) rfl rfl fg_X0_17 dX0_loadBridge_24 rfl ?_
  refine gx_iconst X 27 28 (0) dX0_loadBridge_27 rfl ci_0 ?_
  refine gx_bipush X 28 30 (6) dX0_loadBridge_28 rfl cb_6 ?_
  refine gx_acopy X 30 33 2 32 (by decide) (by decide) rfl rfl wl_X0_73 (by decide) (Nat.le_of_ble_eq_true rfl) dX0_loadBridge_30 rfl (fun m3 => ?_)
  exact gx_vret X 33 hr dX0_loadBridge_33
def fX0_loadWalker (a2 : Int32) (a3 : Int32) (μ : Mm) : Aa := mm_ck a2 10 (mm_cl (fX3_paceOf a3 μ) (fun (x2 : Int32) (m3 : Mm) => mm_lt (mm_wr m3 ((34 + a2.toNatClampNeg)) 2 x2) (fun (m4 : Mm) => mm_ck a2 10 (mm_cl (fX3_isSpiting a3 m4) (fun (x6 : Int32) (m7 : Mm) => mm_bo x6 (mm_lt (mm_wr m7 ((34 + a2.toNatClampNeg)) 5 x6) (fun (m8 : Mm) => mm_ck a2 10 (mm_lt (mm_wr m8 ((34 + a2.toNatClampNeg)) 6 a2) (fun (m10 : Mm) => some (0, m10))))))))))
abbrev rX0_loadWalker : Room := { frames := 3, cells := 0, slots := 0, locals := 63 }
set_option maxRecDepth 100000 in
set_option maxHeartbeats 8000000 in
theorem tX0_loadWalker {l : Launch} {D : va_G} {cA : Nat → ClassId} {adr : Nat → Nat} {tt sK sV : Nat → Nat} {qv : Value} (hJ : mm_J adr NX) (a2 : Int32) (a3 : Int32) (μ : Mm) : mm_Mv l D cA adr sX NX (mm_SX (mm_A adr NX) tt sK sV qv) yX0_loadWalker cX0_loadWalker 4 none rX0_loadWalker [.ref (adr 30), .ref (adr 1), .int a2, .int a3] μ (fX0_loadWalker a2 a3 μ) := by
  refine mm_entryv hJ mm_okX (by decide) (Nat.le_of_ble_eq_true rfl) ⟨rfl, rfl⟩ (fun p e s m below meth c X hr => ?_)
  generalize ([.ref (adr 30), .ref (adr 1), .int a2, .int a3] : List Value).toArray = args at X ⊢
  refine gx_lv (lv' := [(0, .ref (adr 30)), (1, .ref (adr 1)), (2, .int a2), (3, .int a3)]) rfl ?_
  unfold fX0_loadWalker
  refine gx_aload_n X 0 1 0 dX0_loadWalker_0 rfl rfl rfl ?_
  refine gx_getR X 1 4 30 (by decide) rfl rfl fg_X0_11 dX0_loadWalker_1 rfl ?_
  refine gx_iload_n X 4 5 2 dX0_loadWalker_4 rfl rfl rfl ?_
  refine gx_aaload X 5 6 31 (by decide) rfl rfl rfl dX0_loadWalker_5 rfl (fun h1 => ?_)
  refine gx_aload_n X 6 7 1 dX0_loadWalker_6 rfl rfl rfl ?_
  refine gx_iload_n X 7 8 3 dX0_loadWalker_7 rfl rfl rfl ?_
  refine gx_calliV X 8 11 1 (rest := [.ref (adr ((34 + a2.toNatClampNeg)))]) (As := [.int a3]) (tX3_paceOf hJ a3 μ) (by decide) rfl rfl wc_X3_paceOf wl_X0_79 wi_X3_paceOf ws_X3_paceOf wn_X3 rfl hd_X3_paceOf ⟨Nat.le_of_ble_eq_true rfl, Nat.le_of_ble_eq_true rfl⟩ ⟨rfl, rfl⟩ rfl rfl (Nat.le_of_ble_eq_true rfl) dX0_loadWalker_8 rfl (fun x2 m3 => ?_)
  refine gx_putI X 11 14 ((34 + a2.toNatClampNeg)) (sX_wl h1) (sX_w h1) rfl fp_X0_83 dX0_loadWalker_11 rfl (fun m4 => ?_)
  refine gx_aload_n X 14 15 0 dX0_loadWalker_14 rfl rfl rfl ?_
  refine gx_getR X 15 18 30 (by decide) rfl rfl fg_X0_11 dX0_loadWalker_15 rfl ?_
  refine gx_iload_n X 18 19 2 dX0_loadWalker_18 rfl rfl rfl ?_
  refine gx_aaload X 19 20 31 (by decide) rfl rfl rfl dX0_loadWalker_19 rfl (fun h5 => ?_)
  refine gx_aload_n X 20 21 1 dX0_loadWalker_20 rfl rfl rfl ?_
  refine gx_iload_n X 21 22 3 dX0_loadWalker_21 rfl rfl rfl ?_
  refine gx_calliV X 22 25 1 (rest := [.ref (adr ((34 + a2.toNatClampNeg)))]) (As := [.int a3]) (tX3_isSpiting hJ a3 m4) (by decide) rfl rfl wc_X3_isSpiting wl_X0_86 wi_X3_isSpiting ws_X3_isSpiting wn_X3 rfl hd_X3_isSpiting ⟨Nat.le_of_ble_eq_true rfl, Nat.le_of_ble_eq_true rfl⟩ ⟨rfl, rfl⟩ rfl rfl (Nat.le_of_ble_eq_true rfl) dX0_loadWalker_22 rfl (fun x6 m7 => ?_)
  refine gx_putZ X 25 28 ((34 + a2.toNatClampNeg)) (sX_wl h5) (sX_w h5) rfl fp_X0_90 dX0_loadWalker_25 rfl (fun m8 => ?_)
  refine gx_aload_n X 28 29 0 dX0_loadWalker_28 rfl rfl rfl ?_
  refine gx_getR X 29 32 30 (by decide) rfl rfl fg_X0_11 dX0_loadWalker_29 rfl ?_
  refine gx_iload_n X 32 33 2 dX0_loadWalker_32 rfl rfl rfl ?_
  refine gx_aaload X 33 34 31 (by decide) rfl rfl rfl dX0_loadWalker_33 rfl (fun h9 => ?_)
  refine gx_iload_n X 34 35 2 dX0_loadWalker_34 rfl rfl rfl ?_
  refine gx_putI X 35 38 ((34 + a2.toNatClampNeg)) (sX_wl h9) (sX_w h9) rfl fp_X0_94 dX0_loadWalker_35 rfl (fun m10 => ?_)
  exact gx_vret X 38 hr dX0_loadWalker_38
def fX0_load_L16 (k_107 : Mm → Aa) (rec_16 : Int32 → Mm → Aa) (x6 : Int32) (m7 : Mm) : Aa := if (m7 30 6) ≤ x6 then (k_107 m7) else (mm_ck x6 10 (mm_ck x6 10 (mm_cl (fX0_loadWalker x6 x6 m7) (fun (x10 : Int32) (m11 : Mm) => mm_ck 0 7 (mm_lt (mm_wr m11 ((34 + x6.toNatClampNeg)) 0 (m11 ((4 + x6.toNatClampNeg)) (0 : Int32).toNatClampNeg)) (fun (m12 : Mm) => mm_ck 1 7 (mm_lt (mm_wr m12 ((34 + x6.toNatClampNeg)) 1 (m12 ((4 + x6.toNatClampNeg)) (1 : Int32).toNatClampNeg)) (fun (m13 : Mm) => mm_ck 4 7 (mm_lt (mm_wr m13 ((34 + x6.toNatClampNeg)) 3 (m13 ((4 + x6.toNatClampNeg)) (4 : Int32).toNatClampNeg)) (fun (m14 : Mm) => mm_ck 5 7 (mm_lt (mm_wr m14 ((34 + x6.toNatClampNeg)) 4 (m14 ((4 + x6.toNatClampNeg)) (5 : Int32).toNatClampNeg)) (fun (m15 : Mm) => mm_ck 6 7 (mm_lt (fun (x16 : Int32) (m17 : Mm) => mm_lt (mm_wr m17 ((34 + x6.toNatClampNeg)) 7 x16) (fun (m18 : Mm) => mm_lt (x6 + 1) (fun (x19 : Int32) => rec_16 x19 m18))) (fun (k_98 : Int32 → Mm → Aa) => if (m15 ((4 + x6.toNatClampNeg)) (6 : Int32).toNatClampNeg) = ((-1)) then (k_98 0 m15) else (mm_ck 6 7 (k_98 (1 <<< ((m15 ((4 + x6.toNatClampNeg)) (6 : Int32).toNatClampNeg) &&& 31)) m15))))))))))))))))
def fX0_load (μ : Mm) : Aa := mm_cl (fX0_loadBridge (μ 1 1) μ) (fun (x1 : Int32) (m2 : Mm) => mm_lt (mm_wr m2 30 2 ((-1))) (fun (m3 : Mm) => mm_lt 0 (fun (x4 : Int32) => mm_lt (fun (m5 : Mm) => some (0, m5)) (fun (k_107 : Mm → Aa) => mm_lk (fun (_ : Int32) (_ : Mm) => (none : Aa)) (fX0_load_L16 k_107) mm_fu x4 m3))))
abbrev rX0_load : Room := { frames := 4, cells := 0, slots := 0, locals := 86 }
set_option maxRecDepth 100000 in
set_option maxHeartbeats 8000000 in
theorem tX0_load {l : Launch} {D : va_G} {cA : Nat → ClassId} {adr : Nat → Nat} {tt sK sV : Nat → Nat} {qv : Value} (hJ : mm_J adr NX) (μ : Mm) : mm_Mv l D cA adr sX NX (mm_SX (mm_A adr NX) tt sK sV qv) yX0_load cX0_load 5 none rX0_load [.ref (adr 30), .ref (adr 1)] μ (fX0_load μ) := by
  refine mm_entryv hJ mm_okX (by decide) (Nat.le_of_ble_eq_true rfl) ⟨rfl, rfl⟩ (fun p e s m below meth c X hr => ?_)
  generalize ([.ref (adr 30), .ref (adr 1)] : List Value).toArray = args at X ⊢
  refine gx_lv (lv' := [(0, .ref (adr 30)), (1, .ref (adr 1))]) rfl ?_
  unfold fX0_load
  refine gx_aload_n X 0 1 0 dX0_load_0 rfl rfl rfl ?_
  refine gx_aload_n X 1 2 1 dX0_load_1 rfl rfl rfl ?_
  refine gx_aload_n X 2 3 1 dX0_load_2 rfl rfl rfl ?_
  refine gx_getI X 3 6 1 (by decide) rfl rfl fg_X0_25 dX0_load_3 rfl ?_
  refine gx_callvV X 6 9 30 (rest := []) (As := [.ref (adr 1), .int (μ 1 1)]) (tX0_loadBridge hJ (μ 1 1) μ) (by decide) rfl rfl wc_X0_loadBridge wl_X0_31 wi_X0_loadBridge ws_X0_loadBridge wn_X0 rfl hd_X0_loadBridge ⟨Nat.le_of_ble_eq_true rfl, Nat.le_of_ble_eq_true rfl⟩ ⟨rfl, rfl⟩ rfl rfl (Nat.le_of_ble_eq_true rfl) dX0_load_6 rfl (fun x1 m2 => ?_)
  refine gx_aload_n X 9 10 0 dX0_load_9 rfl rfl rfl ?_
  refine gx_iconst X 10 11 (-1) dX0_load_10 rfl ci_m1 ?_
  refine gx_putI X 11 14 30 (by decide) rfl rfl fp_X0_35 dX0_load_11 rfl (fun m3 => ?_)
  refine gx_iconst X 14 15 (0) dX0_load_14 rfl ci_0 ?_
  refine gx_istore_n X 15 16 (fun x4 => [(2, .int x4), (0, .ref (adr 30)), (1, .ref (adr 1))]) dX0_load_15 rfl rfl (by decide) (fun _ => rfl) (fun x4 => ?_)
  refine gx_jn (fun (k : Mm → Aa) => ∀ (m5 : Mm), mm_G p l e rX0_load s m args below meth c 5 D cA adr sX NX (mm_Qv D cA adr sX NX) m5 107 [] [] (k m5)) ?_ (fun k_107 hk_107 => ?_)
  · intro m5
    exact gx_vret X 107 hr dX0_load_107
  refine gx_sub [1, 2, 0] rfl ?_
  refine mm_lk_ind (fun (rec : Int32 → Mm → Aa) => ∀ (x6 : Int32) (m7 : Mm), mm_G p l e rX0_load s m args below meth c 5 D cA adr sX NX (mm_Qv D cA adr sX NX) m7 16 [(0, .ref (adr 30)), (1, .ref (adr 1)), (2, .int x6)] [] (rec x6 m7)) (fun _ _ => gx_none) (fun rec_16 hr_16 x6 m7 => ?_) mm_fu x4 m3
  unfold fX0_load_L16
  refine gx_iload_n X 16 17 2 dX0_load_16 rfl rfl rfl ?_
  refine gx_aload_n X 17 18 0 dX0_load_17 rfl rfl rfl ?_
  refine gx_getI X 18 21 30 (by decide) rfl rfl fg_X0_38 dX0_load_18 rfl ?_
  refine gx_icmp_ge X 21 107 24 dX0_load_21 rfl rfl ?_ ?_
  · refine gx_sub [] rfl ?_
    exact hk_107 m7
  refine gx_aload_n X 24 25 1 dX0_load_24 rfl rfl rfl ?_
  refine gx_getR X 25 28 1 (by decide) rfl rfl fg_X0_39 dX0_load_25 rfl ?_
  refine gx_iload_n X 28 29 2 dX0_load_28 rfl rfl rfl ?_
  refine gx_aaload X 29 30 3 (by decide) rfl rfl rfl dX0_load_29 rfl (fun h8 => ?_)
  refine gx_astore_n X 30 31 [(3, .ref (adr ((4 + x6.toNatClampNeg)))), (0, .ref (adr 30)), (1, .ref (adr 1)), (2, .int x6)] dX0_load_30 rfl rfl (by decide) rfl ?_
  refine gx_aload_n X 31 32 1 dX0_load_31 rfl rfl rfl ?_
  refine gx_getR X 32 35 30 (by decide) rfl rfl fg_X0_11 dX0_load_32 rfl ?_
  refine gx_iload_n X 35 36 3 dX0_load_35 rfl rfl rfl ?_
  refine gx_aaload X 36 37 31 (by decide) rfl rfl rfl dX0_load_36 rfl (fun h9 => ?_)
  refine gx_astore X 37 39 [(4, .ref (adr ((34 + x6.toNatClampNeg)))), (3, .ref (adr ((4 + x6.toNatClampNeg)))), (0, .ref (adr 30)), (1, .ref (adr 1)), (2, .int x6)] dX0_load_37 rfl (by decide) rfl ?_
  refine gx_aload_n X 39 40 2 dX0_load_39 rfl rfl rfl ?_
  refine gx_aload_n X 40 41 3 dX0_load_40 rfl rfl rfl ?_
  refine gx_iload_n X 41 42 4 dX0_load_41 rfl rfl rfl ?_
  refine gx_iload_n X 42 43 4 dX0_load_42 rfl rfl rfl ?_
  refine gx_callvV X 43 46 30 (rest := []) (As := [.ref (adr 1), .int x6, .int x6]) (tX0_loadWalker hJ x6 x6 m7) (by decide) rfl rfl wc_X0_loadWalker wl_X0_43 wi_X0_loadWalker ws_X0_loadWalker wn_X0 rfl hd_X0_loadWalker ⟨Nat.le_of_ble_eq_true rfl, Nat.le_of_ble_eq_true rfl⟩ ⟨rfl, rfl⟩ rfl rfl (Nat.le_of_ble_eq_true rfl) dX0_load_43 rfl (fun x10 m11 => ?_)
  refine gx_aload X 46 48 0 dX0_load_46 rfl rfl ?_
  refine gx_aload_n X 48 49 1 dX0_load_48 rfl rfl rfl ?_
  refine gx_iconst X 49 50 (0) dX0_load_49 rfl ci_0 ?_
  refine gx_iaload X 50 51 ((4 + x6.toNatClampNeg)) (sX_fl h8) (sX_f h8) dX0_load_50 rfl ?_
  refine gx_putI X 51 54 ((34 + x6.toNatClampNeg)) (sX_wl h9) (sX_w h9) rfl fp_X0_47 dX0_load_51 rfl (fun m12 => ?_)
  refine gx_aload X 54 56 0 dX0_load_54 rfl rfl ?_
  refine gx_aload_n X 56 57 1 dX0_load_56 rfl rfl rfl ?_
  refine gx_iconst X 57 58 (1) dX0_load_57 rfl ci_1 ?_
  refine gx_iaload X 58 59 ((4 + x6.toNatClampNeg)) (sX_fl h8) (sX_f h8) dX0_load_58 rfl ?_
  refine gx_putI X 59 62 ((34 + x6.toNatClampNeg)) (sX_wl h9) (sX_w h9) rfl fp_X0_50 dX0_load_59 rfl (fun m13 => ?_)
  refine gx_aload X 62 64 0 dX0_load_62 rfl rfl ?_
  refine gx_aload_n X 64 65 1 dX0_load_64 rfl rfl rfl ?_
  refine gx_iconst X 65 66 (4) dX0_load_65 rfl ci_4 ?_
  refine gx_iaload X 66 67 ((4 + x6.toNatClampNeg)) (sX_fl h8) (sX_f h8) dX0_load_66 rfl ?_
  refine gx_putI X 67 70 ((34 + x6.toNatClampNeg)) (sX_wl h9) (sX_w h9) rfl fp_X0_53 dX0_load_67 rfl (fun m14 => ?_)
  refine gx_aload X 70 72 0 dX0_load_70 rfl rfl ?_
  refine gx_aload_n X 72 73 1 dX0_load_72 rfl rfl rfl ?_
  refine gx_iconst X 73 74 (5) dX0_load_73 rfl ci_5 ?_
  refine gx_iaload X 74 75 ((4 + x6.toNatClampNeg)) (sX_fl h8) (sX_f h8) dX0_load_74 rfl ?_
  refine gx_putI X 75 78 ((34 + x6.toNatClampNeg)) (sX_wl h9) (sX_w h9) rfl fp_X0_56 dX0_load_75 rfl (fun m15 => ?_)
  refine gx_aload X 78 80 0 dX0_load_78 rfl rfl ?_
  refine gx_aload_n X 80 81 1 dX0_load_80 rfl rfl rfl ?_
  refine gx_bipush X 81 83 (6) dX0_load_81 rfl cb_6 ?_
  refine gx_iaload X 83 84 ((4 + x6.toNatClampNeg)) (sX_fl h8) (sX_f h8) dX0_load_83 rfl ?_
  refine gx_iconst X 84 85 (-1) dX0_load_84 rfl ci_m1 ?_
  refine gx_jn (fun (k : Int32 → Mm → Aa) => ∀ (x16 : Int32) (m17 : Mm), mm_G p l e rX0_load s m args below meth c 5 D cA adr sX NX (mm_Qv D cA adr sX NX) m17 98 [(0, .ref (adr 30)), (1, .ref (adr 1)), (2, .int x6)] [.int x16, .ref (adr ((34 + x6.toNatClampNeg)))] (k x16 m17)) ?_ (fun k_98 hk_98 => ?_)
  · intro x16 m17
    refine gx_putI X 98 101 ((34 + x6.toNatClampNeg)) (sX_wl h9) (sX_w h9) rfl fp_X0_59 dX0_load_98 rfl (fun m18 => ?_)
    refine gx_iinc X 101 104 2 (1) (fun x19 => [(2, .int x19), (0, .ref (adr 30)), (1, .ref (adr 1))]) dX0_load_101 rfl rfl ci_1 (by decide) (fun _ => rfl) (fun x19 => ?_)
    refine gx_goto X 104 16 dX0_load_104 rfl ?_
    refine gx_sub [1, 2, 0] rfl ?_
    exact hr_16 x19 m18
  refine gx_icmp_ne X 85 92 88 dX0_load_85 rfl rfl ?_ ?_
  · refine gx_iconst X 92 93 (1) dX0_load_92 rfl ci_1 ?_
    refine gx_aload_n X 93 94 1 dX0_load_93 rfl rfl rfl ?_
    refine gx_bipush X 94 96 (6) dX0_load_94 rfl cb_6 ?_
    refine gx_iaload X 96 97 ((4 + x6.toNatClampNeg)) (sX_fl h8) (sX_f h8) dX0_load_96 rfl ?_
    refine gx_ishl X 97 98 dX0_load_97 rfl ?_
    refine gx_sub [2, 3, 4] rfl ?_
    exact hk_98 (1 <<< ((m15 ((4 + x6.toNatClampNeg)) (6 : Int32).toNatClampNeg) &&& 31)) m15
  refine gx_iconst X 88 89 (0) dX0_load_88 rfl ci_0 ?_
  refine gx_goto X 89 98 dX0_load_89 rfl ?_
  refine gx_sub [2, 3, 4] rfl ?_
  exact hk_98 0 m15
def fX0_loadOnce_L40 (k_105 : Mm → Aa) (rec_40 : Int32 → Mm → Aa) (x8 : Int32) (m9 : Mm) : Aa := if (m9 30 6) ≤ x8 then (k_105 m9) else (mm_ck x8 10 (mm_ck x8 6 (mm_cl (fX0_loadWalker x8 (m9 46 x8.toNatClampNeg) m9) (fun (x11 : Int32) (m12 : Mm) => mm_lt (mm_wr m12 ((34 + x8.toNatClampNeg)) 0 0) (fun (m13 : Mm) => mm_lt (mm_wr m13 ((34 + x8.toNatClampNeg)) 1 0) (fun (m14 : Mm) => mm_lt (mm_wr m14 ((34 + x8.toNatClampNeg)) 3 1) (fun (m15 : Mm) => mm_lt (mm_wr m15 ((34 + x8.toNatClampNeg)) 4 0) (fun (m16 : Mm) => mm_lt (mm_wr m16 ((34 + x8.toNatClampNeg)) 7 0) (fun (m17 : Mm) => mm_lt (x8 + 1) (fun (x18 : Int32) => rec_40 x18 m17))))))))))
def fX0_loadOnce (a3 : Int32) (μ : Mm) : Aa := mm_cl (fX0_loadBridge (if (Int32.ofNat 6) < a3 then (Int32.ofNat 6) else a3) μ) (fun (x1 : Int32) (m2 : Mm) => mm_ck 3 6 (mm_lt (mm_wr m2 32 (3 : Int32).toNatClampNeg 0) (fun (m3 : Mm) => mm_ck 5 6 (mm_lt (mm_wr m3 32 (5 : Int32).toNatClampNeg 0) (fun (m4 : Mm) => mm_lt (mm_wr m4 30 2 ((1 <<< ((m4 30 6) &&& 31)) - 1)) (fun (m5 : Mm) => mm_lt 0 (fun (x6 : Int32) => mm_lt (fun (m7 : Mm) => some (0, m7)) (fun (k_105 : Mm → Aa) => mm_lk (fun (_ : Int32) (_ : Mm) => (none : Aa)) (fX0_loadOnce_L40 k_105) mm_fu x6 m5))))))))
abbrev rX0_loadOnce : Room := { frames := 4, cells := 0, slots := 0, locals := 86 }
set_option maxRecDepth 100000 in
set_option maxHeartbeats 8000000 in
theorem tX0_loadOnce {l : Launch} {D : va_G} {cA : Nat → ClassId} {adr : Nat → Nat} {tt sK sV : Nat → Nat} {qv : Value} (hJ : mm_J adr NX) (a3 : Int32) (μ : Mm) : mm_Mv l D cA adr sX NX (mm_SX (mm_A adr NX) tt sK sV qv) yX0_loadOnce cX0_loadOnce 6 none rX0_loadOnce [.ref (adr 30), .ref (adr 1), .ref (adr 46), .int a3] μ (fX0_loadOnce a3 μ) := by
  refine mm_entryv hJ mm_okX (by decide) (Nat.le_of_ble_eq_true rfl) ⟨rfl, rfl⟩ (fun p e s m below meth c X hr => ?_)
  generalize ([.ref (adr 30), .ref (adr 1), .ref (adr 46), .int a3] : List Value).toArray = args at X ⊢
  refine gx_lv (lv' := [(0, .ref (adr 30)), (1, .ref (adr 1)), (2, .ref (adr 46)), (3, .int a3)]) rfl ?_
  unfold fX0_loadOnce
  refine gx_aload_n X 0 1 0 dX0_loadOnce_0 rfl rfl rfl ?_
  refine gx_aload_n X 1 2 1 dX0_loadOnce_1 rfl rfl rfl ?_
  refine gx_iload_n X 2 3 3 dX0_loadOnce_2 rfl rfl rfl ?_
  refine gx_aload_n X 3 4 2 dX0_loadOnce_3 rfl rfl rfl ?_
  refine gx_alen X 4 5 46 (Int32.ofNat 6) (by decide) rfl rfl dX0_loadOnce_4 rfl ?_
  refine gx_mmin X 5 8 wl_X0_62 wt_Mmin wn_J9 wc_Mmin (by decide) (Nat.le_of_ble_eq_true rfl) dX0_loadOnce_5 rfl ?_
  refine gx_callvV X 8 11 30 (rest := []) (As := [.ref (adr 1), .int (if (Int32.ofNat 6) < a3 then (Int32.ofNat 6) else a3)]) (tX0_loadBridge hJ (if (Int32.ofNat 6) < a3 then (Int32.ofNat 6) else a3) μ) (by decide) rfl rfl wc_X0_loadBridge wl_X0_31 wi_X0_loadBridge ws_X0_loadBridge wn_X0 rfl hd_X0_loadBridge ⟨Nat.le_of_ble_eq_true rfl, Nat.le_of_ble_eq_true rfl⟩ ⟨rfl, rfl⟩ rfl rfl (Nat.le_of_ble_eq_true rfl) dX0_loadOnce_8 rfl (fun x1 m2 => ?_)
  refine gx_aload_n X 11 12 0 dX0_loadOnce_11 rfl rfl rfl ?_
  refine gx_getR X 12 15 30 (by decide) rfl rfl fg_X0_17 dX0_loadOnce_12 rfl ?_
  refine gx_iconst X 15 16 (3) dX0_loadOnce_15 rfl ci_3 ?_
  refine gx_iconst X 16 17 (0) dX0_loadOnce_16 rfl ci_0 ?_
  refine gx_iastore X 17 18 32 (by decide) rfl dX0_loadOnce_17 rfl (fun m3 => ?_)
  refine gx_aload_n X 18 19 0 dX0_loadOnce_18 rfl rfl rfl ?_
  refine gx_getR X 19 22 30 (by decide) rfl rfl fg_X0_17 dX0_loadOnce_19 rfl ?_
  refine gx_iconst X 22 23 (5) dX0_loadOnce_22 rfl ci_5 ?_
  refine gx_iconst X 23 24 (0) dX0_loadOnce_23 rfl ci_0 ?_
  refine gx_iastore X 24 25 32 (by decide) rfl dX0_loadOnce_24 rfl (fun m4 => ?_)
  refine gx_aload_n X 25 26 0 dX0_loadOnce_25 rfl rfl rfl ?_
  refine gx_iconst X 26 27 (1) dX0_loadOnce_26 rfl ci_1 ?_
  refine gx_aload_n X 27 28 0 dX0_loadOnce_27 rfl rfl rfl ?_
  refine gx_getI X 28 31 30 (by decide) rfl rfl fg_X0_38 dX0_loadOnce_28 rfl ?_
  refine gx_ishl X 31 32 dX0_loadOnce_31 rfl ?_
  refine gx_iconst X 32 33 (1) dX0_loadOnce_32 rfl ci_1 ?_
  refine gx_isub X 33 34 dX0_loadOnce_33 rfl ?_
  refine gx_putI X 34 37 30 (by decide) rfl rfl fp_X0_35 dX0_loadOnce_34 rfl (fun m5 => ?_)
  refine gx_iconst X 37 38 (0) dX0_loadOnce_37 rfl ci_0 ?_
  refine gx_istore X 38 40 (fun x6 => [(4, .int x6), (0, .ref (adr 30)), (1, .ref (adr 1)), (2, .ref (adr 46)), (3, .int a3)]) dX0_loadOnce_38 rfl (by decide) (fun _ => rfl) (fun x6 => ?_)
  refine gx_jn (fun (k : Mm → Aa) => ∀ (m7 : Mm), mm_G p l e rX0_loadOnce s m args below meth c 6 D cA adr sX NX (mm_Qv D cA adr sX NX) m7 105 [] [] (k m7)) ?_ (fun k_105 hk_105 => ?_)
  · intro m7
    exact gx_vret X 105 hr dX0_loadOnce_105
  refine gx_sub [1, 2, 3, 0] rfl ?_
  refine mm_lk_ind (fun (rec : Int32 → Mm → Aa) => ∀ (x8 : Int32) (m9 : Mm), mm_G p l e rX0_loadOnce s m args below meth c 6 D cA adr sX NX (mm_Qv D cA adr sX NX) m9 40 [(0, .ref (adr 30)), (1, .ref (adr 1)), (2, .ref (adr 46)), (4, .int x8)] [] (rec x8 m9)) (fun _ _ => gx_none) (fun rec_40 hr_40 x8 m9 => ?_) mm_fu x6 m5
  unfold fX0_loadOnce_L40
  refine gx_iload X 40 42 3 dX0_loadOnce_40 rfl rfl ?_
  refine gx_aload_n X 42 43 0 dX0_loadOnce_42 rfl rfl rfl ?_
  refine gx_getI X 43 46 30 (by decide) rfl rfl fg_X0_38 dX0_loadOnce_43 rfl ?_
  refine gx_icmp_ge X 46 105 49 dX0_loadOnce_46 rfl rfl ?_ ?_
  · refine gx_sub [] rfl ?_
    exact hk_105 m9
  refine gx_aload_n X 49 50 0 dX0_loadOnce_49 rfl rfl rfl ?_
  refine gx_getR X 50 53 30 (by decide) rfl rfl fg_X0_11 dX0_loadOnce_50 rfl ?_
  refine gx_iload X 53 55 3 dX0_loadOnce_53 rfl rfl ?_
  refine gx_aaload X 55 56 31 (by decide) rfl rfl rfl dX0_loadOnce_55 rfl (fun h10 => ?_)
  refine gx_astore X 56 58 [(5, .ref (adr ((34 + x8.toNatClampNeg)))), (0, .ref (adr 30)), (1, .ref (adr 1)), (2, .ref (adr 46)), (4, .int x8)] dX0_loadOnce_56 rfl (by decide) rfl ?_
  refine gx_aload_n X 58 59 1 dX0_loadOnce_58 rfl rfl rfl ?_
  refine gx_aload_n X 59 60 2 dX0_loadOnce_59 rfl rfl rfl ?_
  refine gx_iload X 60 62 4 dX0_loadOnce_60 rfl rfl ?_
  refine gx_aload_n X 62 63 3 dX0_loadOnce_62 rfl rfl rfl ?_
  refine gx_iload X 63 65 4 dX0_loadOnce_63 rfl rfl ?_
  refine gx_iaload X 65 66 46 (by decide) rfl dX0_loadOnce_65 rfl ?_
  refine gx_callvV X 66 69 30 (rest := []) (As := [.ref (adr 1), .int x8, .int (m9 46 x8.toNatClampNeg)]) (tX0_loadWalker hJ x8 (m9 46 x8.toNatClampNeg) m9) (by decide) rfl rfl wc_X0_loadWalker wl_X0_43 wi_X0_loadWalker ws_X0_loadWalker wn_X0 rfl hd_X0_loadWalker ⟨Nat.le_of_ble_eq_true rfl, Nat.le_of_ble_eq_true rfl⟩ ⟨rfl, rfl⟩ rfl rfl (Nat.le_of_ble_eq_true rfl) dX0_loadOnce_66 rfl (fun x11 m12 => ?_)
  refine gx_aload X 69 71 0 dX0_loadOnce_69 rfl rfl ?_
  refine gx_iconst X 71 72 (0) dX0_loadOnce_71 rfl ci_0 ?_
  refine gx_putI X 72 75 ((34 + x8.toNatClampNeg)) (sX_wl h10) (sX_w h10) rfl fp_X0_47 dX0_loadOnce_72 rfl (fun m13 => ?_)
  refine gx_aload X 75 77 0 dX0_loadOnce_75 rfl rfl ?_
  refine gx_iconst X 77 78 (0) dX0_loadOnce_77 rfl ci_0 ?_
  refine gx_putI X 78 81 ((34 + x8.toNatClampNeg)) (sX_wl h10) (sX_w h10) rfl fp_X0_50 dX0_loadOnce_78 rfl (fun m14 => ?_)
  refine gx_aload X 81 83 0 dX0_loadOnce_81 rfl rfl ?_
  refine gx_iconst X 83 84 (1) dX0_loadOnce_83 rfl ci_1 ?_
  refine gx_putI X 84 87 ((34 + x8.toNatClampNeg)) (sX_wl h10) (sX_w h10) rfl fp_X0_53 dX0_loadOnce_84 rfl (fun m15 => ?_)
  refine gx_aload X 87 89 0 dX0_loadOnce_87 rfl rfl ?_
  refine gx_iconst X 89 90 (0) dX0_loadOnce_89 rfl ci_0 ?_
  refine gx_putI X 90 93 ((34 + x8.toNatClampNeg)) (sX_wl h10) (sX_w h10) rfl fp_X0_56 dX0_loadOnce_90 rfl (fun m16 => ?_)
  refine gx_aload X 93 95 0 dX0_loadOnce_93 rfl rfl ?_
  refine gx_iconst X 95 96 (0) dX0_loadOnce_95 rfl ci_0 ?_
  refine gx_putI X 96 99 ((34 + x8.toNatClampNeg)) (sX_wl h10) (sX_w h10) rfl fp_X0_59 dX0_loadOnce_96 rfl (fun m17 => ?_)
  refine gx_iinc X 99 102 4 (1) (fun x18 => [(4, .int x18), (5, .ref (adr ((34 + x8.toNatClampNeg)))), (0, .ref (adr 30)), (1, .ref (adr 1)), (2, .ref (adr 46))]) dX0_loadOnce_99 rfl rfl ci_1 (by decide) (fun _ => rfl) (fun x18 => ?_)
  refine gx_goto X 102 40 dX0_loadOnce_102 rfl ?_
  refine gx_sub [2, 3, 4, 0] rfl ?_
  exact hr_40 x18 m17
def fX0_isHeldBack_L11 (k1 : Nat) (k_57 : Mm → Aa) (k_65 : Mm → Aa) (rec_11 : Int32 → Mm → Aa) (x4 : Int32) (m5 : Mm) : Aa := if (m5 30 6) ≤ x4 then (k_65 m5) else (mm_ck x4 10 (mm_lt (fun (m7 : Mm) => mm_lt (x4 + 1) (fun (x8 : Int32) => rec_11 x8 m7)) (fun (k_59 : Mm → Aa) => if (((m5 k1 7) >>> (x4 &&& 31)) &&& 1) = 1 then (if (m5 ((34 + x4.toNatClampNeg)) 8) = 1 then (if (m5 ((34 + x4.toNatClampNeg)) 9) = (m5 k1 9) then (k_57 m5) else (k_59 m5)) else (k_59 m5)) else (k_59 m5))))
def fX0_isHeldBack (k1 : Nat) (μ : Mm) : Aa := if (μ k1 7) = 0 then (mm_bo 0 (some (0, μ))) else (mm_lt 0 (fun (x1 : Int32) => mm_lt (fun (m2 : Mm) => mm_bo 0 (some (0, m2))) (fun (k_65 : Mm → Aa) => mm_lt (fun (m3 : Mm) => mm_bo 1 (some (1, m3))) (fun (k_57 : Mm → Aa) => mm_lk (fun (_ : Int32) (_ : Mm) => (none : Aa)) (fX0_isHeldBack_L11 k1 k_57 k_65) mm_fu x1 μ))))
abbrev rX0_isHeldBack : Room := { frames := 0, cells := 0, slots := 0, locals := 0 }
set_option maxRecDepth 100000 in
set_option maxHeartbeats 8000000 in
theorem tX0_isHeldBack {l : Launch} {D : va_G} {cA : Nat → ClassId} {adr : Nat → Nat} {tt sK sV : Nat → Nat} {qv : Value} (hJ : mm_J adr NX) (k1 : Nat) (hk1 : k1 < NX) (hs1 : sX k1 = shW) (μ : Mm) : mm_Mi l D cA adr sX NX (mm_SX (mm_A adr NX) tt sK sV qv) yX0_isHeldBack cX0_isHeldBack 4 (some .boolean) rX0_isHeldBack [.ref (adr 30), .ref (adr k1)] μ (fX0_isHeldBack k1 μ) := by
  refine mm_entryi hJ mm_okX (by decide) (Nat.le_of_ble_eq_true rfl) ⟨rfl, rfl⟩ (fun p e s m below meth c X hr => ?_)
  generalize ([.ref (adr 30), .ref (adr k1)] : List Value).toArray = args at X ⊢
  refine gx_lv (lv' := [(0, .ref (adr 30)), (1, .ref (adr k1))]) rfl ?_
  unfold fX0_isHeldBack
  refine gx_aload_n X 0 1 1 dX0_isHeldBack_0 rfl rfl rfl ?_
  refine gx_getI X 1 4 k1 hk1 hs1 rfl fg_X0_59 dX0_isHeldBack_1 rfl ?_
  refine gx_if_ne X 4 9 7 dX0_isHeldBack_4 rfl rfl ?_ ?_
  · refine gx_iconst X 9 10 (0) dX0_isHeldBack_9 rfl ci_0 ?_
    refine gx_istore_n X 10 11 (fun x1 => [(2, .int x1), (0, .ref (adr 30)), (1, .ref (adr k1))]) dX0_isHeldBack_10 rfl rfl (by decide) (fun _ => rfl) (fun x1 => ?_)
    refine gx_jn (fun (k : Mm → Aa) => ∀ (m2 : Mm), mm_G p l e rX0_isHeldBack s m args below meth c 4 D cA adr sX NX (mm_Qi D cA adr sX NX) m2 65 [] [] (k m2)) ?_ (fun k_65 hk_65 => ?_)
    · intro m2
      refine gx_iconst X 65 66 (0) dX0_isHeldBack_65 rfl ci_0 ?_
      exact gx_zret X 66 hr dX0_isHeldBack_66
    refine gx_jn (fun (k : Mm → Aa) => ∀ (m3 : Mm), mm_G p l e rX0_isHeldBack s m args below meth c 4 D cA adr sX NX (mm_Qi D cA adr sX NX) m3 57 [] [] (k m3)) ?_ (fun k_57 hk_57 => ?_)
    · intro m3
      refine gx_iconst X 57 58 (1) dX0_isHeldBack_57 rfl ci_1 ?_
      exact gx_zret X 58 hr dX0_isHeldBack_58
    refine gx_sub [1, 2, 0] rfl ?_
    refine mm_lk_ind (fun (rec : Int32 → Mm → Aa) => ∀ (x4 : Int32) (m5 : Mm), mm_G p l e rX0_isHeldBack s m args below meth c 4 D cA adr sX NX (mm_Qi D cA adr sX NX) m5 11 [(0, .ref (adr 30)), (1, .ref (adr k1)), (2, .int x4)] [] (rec x4 m5)) (fun _ _ => gx_none) (fun rec_11 hr_11 x4 m5 => ?_) mm_fu x1 μ
    unfold fX0_isHeldBack_L11
    refine gx_iload_n X 11 12 2 dX0_isHeldBack_11 rfl rfl rfl ?_
    refine gx_aload_n X 12 13 0 dX0_isHeldBack_12 rfl rfl rfl ?_
    refine gx_getI X 13 16 30 (by decide) rfl rfl fg_X0_38 dX0_isHeldBack_13 rfl ?_
    refine gx_icmp_ge X 16 65 19 dX0_isHeldBack_16 rfl rfl ?_ ?_
    · refine gx_sub [] rfl ?_
      exact hk_65 m5
    refine gx_aload_n X 19 20 0 dX0_isHeldBack_19 rfl rfl rfl ?_
    refine gx_getR X 20 23 30 (by decide) rfl rfl fg_X0_11 dX0_isHeldBack_20 rfl ?_
    refine gx_iload_n X 23 24 2 dX0_isHeldBack_23 rfl rfl rfl ?_
    refine gx_aaload X 24 25 31 (by decide) rfl rfl rfl dX0_isHeldBack_24 rfl (fun h6 => ?_)
    refine gx_astore_n X 25 26 [(3, .ref (adr ((34 + x4.toNatClampNeg)))), (0, .ref (adr 30)), (1, .ref (adr k1)), (2, .int x4)] dX0_isHeldBack_25 rfl rfl (by decide) rfl ?_
    refine gx_aload_n X 26 27 2 dX0_isHeldBack_26 rfl rfl rfl ?_
    refine gx_getI X 27 30 k1 hk1 hs1 rfl fg_X0_59 dX0_isHeldBack_27 rfl ?_
    refine gx_iload_n X 30 31 3 dX0_isHeldBack_30 rfl rfl rfl ?_
    refine gx_ishr X 31 32 dX0_isHeldBack_31 rfl ?_
    refine gx_iconst X 32 33 (1) dX0_isHeldBack_32 rfl ci_1 ?_
    refine gx_iand X 33 34 dX0_isHeldBack_33 rfl ?_
    refine gx_iconst X 34 35 (1) dX0_isHeldBack_34 rfl ci_1 ?_
    refine gx_jn (fun (k : Mm → Aa) => ∀ (m7 : Mm), mm_G p l e rX0_isHeldBack s m args below meth c 4 D cA adr sX NX (mm_Qi D cA adr sX NX) m7 59 [(0, .ref (adr 30)), (1, .ref (adr k1)), (2, .int x4)] [] (k m7)) ?_ (fun k_59 hk_59 => ?_)
    · intro m7
      refine gx_iinc X 59 62 2 (1) (fun x8 => [(2, .int x8), (0, .ref (adr 30)), (1, .ref (adr k1))]) dX0_isHeldBack_59 rfl rfl ci_1 (by decide) (fun _ => rfl) (fun x8 => ?_)
      refine gx_goto X 62 11 dX0_isHeldBack_62 rfl ?_
      refine gx_sub [1, 2, 0] rfl ?_
      exact hr_11 x8 m7
    refine gx_icmp_ne X 35 59 38 dX0_isHeldBack_35 rfl rfl ?_ ?_
    · refine gx_sub [1, 2, 3] rfl ?_
      exact hk_59 m5
    refine gx_aload_n X 38 39 0 dX0_isHeldBack_38 rfl rfl rfl ?_
    refine gx_getI X 39 42 ((34 + x4.toNatClampNeg)) (sX_wl h6) (sX_w h6) rfl fg_X0_138 dX0_isHeldBack_39 rfl ?_
    refine gx_iconst X 42 43 (1) dX0_isHeldBack_42 rfl ci_1 ?_
    refine gx_icmp_ne X 43 59 46 dX0_isHeldBack_43 rfl rfl ?_ ?_
    · refine gx_sub [1, 2, 3] rfl ?_
      exact hk_59 m5
    refine gx_aload_n X 46 47 0 dX0_isHeldBack_46 rfl rfl rfl ?_
    refine gx_getI X 47 50 ((34 + x4.toNatClampNeg)) (sX_wl h6) (sX_w h6) rfl fg_X0_147 dX0_isHeldBack_47 rfl ?_
    refine gx_aload_n X 50 51 2 dX0_isHeldBack_50 rfl rfl rfl ?_
    refine gx_getI X 51 54 k1 hk1 hs1 rfl fg_X0_147 dX0_isHeldBack_51 rfl ?_
    refine gx_icmp_ne X 54 59 57 dX0_isHeldBack_54 rfl rfl ?_ ?_
    · refine gx_sub [1, 2, 3] rfl ?_
      exact hk_59 m5
    refine gx_sub [] rfl ?_
    exact hk_57 m5
  refine gx_iconst X 7 8 (0) dX0_isHeldBack_7 rfl ci_0 ?_
  exact gx_zret X 8 hr dX0_isHeldBack_8
def fX0_begin_L43 (k_66 : Mm → Aa) (rec_43 : Int32 → Mm → Aa) (x8 : Int32) (m9 : Mm) : Aa := if (m9 30 6) ≤ x8 then (k_66 m9) else (mm_ck x8 10 (mm_cl (fX5_begin ((34 + x8.toNatClampNeg)) m9) (fun (x11 : Int32) (m12 : Mm) => mm_lt (x8 + 1) (fun (x13 : Int32) => rec_43 x13 m12))))
def fX0_begin (μ : Mm) : Aa := mm_lt (mm_wr μ 30 3 (μ 30 7)) (fun (m1 : Mm) => mm_ck 4 6 (mm_lt (mm_wr m1 30 4 (m1 32 (4 : Int32).toNatClampNeg)) (fun (m2 : Mm) => mm_lt (mm_wr m2 30 5 0) (fun (m3 : Mm) => mm_ck 0 2 (mm_lt (mm_wr m3 33 (0 : Int32).toNatClampNeg ((-1000))) (fun (m4 : Mm) => mm_ck 1 2 (mm_lt (mm_wr m4 33 (1 : Int32).toNatClampNeg ((-1000))) (fun (m5 : Mm) => mm_lt 0 (fun (x6 : Int32) => mm_lt (fun (m7 : Mm) => some (0, m7)) (fun (k_66 : Mm → Aa) => mm_lk (fun (_ : Int32) (_ : Mm) => (none : Aa)) (fX0_begin_L43 k_66) mm_fu x6 m5))))))))))
abbrev rX0_begin : Room := { frames := 1, cells := 0, slots := 0, locals := 20 }
set_option maxRecDepth 100000 in
set_option maxHeartbeats 8000000 in
theorem tX0_begin {l : Launch} {D : va_G} {cA : Nat → ClassId} {adr : Nat → Nat} {tt sK sV : Nat → Nat} {qv : Value} (hJ : mm_J adr NX) (μ : Mm) : mm_Mv l D cA adr sX NX (mm_SX (mm_A adr NX) tt sK sV qv) yX0_begin cX0_begin 2 none rX0_begin [.ref (adr 30)] μ (fX0_begin μ) := by
  refine mm_entryv hJ mm_okX (by decide) (Nat.le_of_ble_eq_true rfl) ⟨rfl, rfl⟩ (fun p e s m below meth c X hr => ?_)
  generalize ([.ref (adr 30)] : List Value).toArray = args at X ⊢
  refine gx_lv (lv' := [(0, .ref (adr 30))]) rfl ?_
  unfold fX0_begin
  refine gx_aload_n X 0 1 0 dX0_begin_0 rfl rfl rfl ?_
  refine gx_aload_n X 1 2 0 dX0_begin_1 rfl rfl rfl ?_
  refine gx_getI X 2 5 30 (by decide) rfl rfl fg_X0_71 dX0_begin_2 rfl ?_
  refine gx_putI X 5 8 30 (by decide) rfl rfl fp_X0_122 dX0_begin_5 rfl (fun m1 => ?_)
  refine gx_aload_n X 8 9 0 dX0_begin_8 rfl rfl rfl ?_
  refine gx_aload_n X 9 10 0 dX0_begin_9 rfl rfl rfl ?_
  refine gx_getR X 10 13 30 (by decide) rfl rfl fg_X0_17 dX0_begin_10 rfl ?_
  refine gx_iconst X 13 14 (4) dX0_begin_13 rfl ci_4 ?_
  refine gx_iaload X 14 15 32 (by decide) rfl dX0_begin_14 rfl ?_
  refine gx_putI X 15 18 30 (by decide) rfl rfl fp_X0_125 dX0_begin_15 rfl (fun m2 => ?_)
  refine gx_aload_n X 18 19 0 dX0_begin_18 rfl rfl rfl ?_
  refine gx_iconst X 19 20 (0) dX0_begin_19 rfl ci_0 ?_
  refine gx_putI X 20 23 30 (by decide) rfl rfl fp_X0_128 dX0_begin_20 rfl (fun m3 => ?_)
  refine gx_aload_n X 23 24 0 dX0_begin_23 rfl rfl rfl ?_
  refine gx_getR X 24 27 30 (by decide) rfl rfl fg_X0_21 dX0_begin_24 rfl ?_
  refine gx_iconst X 27 28 (0) dX0_begin_27 rfl ci_0 ?_
  refine gx_sipush X 28 31 (-1000) dX0_begin_28 rfl cs_m1000 ?_
  refine gx_iastore X 31 32 33 (by decide) rfl dX0_begin_31 rfl (fun m4 => ?_)
  refine gx_aload_n X 32 33 0 dX0_begin_32 rfl rfl rfl ?_
  refine gx_getR X 33 36 30 (by decide) rfl rfl fg_X0_21 dX0_begin_33 rfl ?_
  refine gx_iconst X 36 37 (1) dX0_begin_36 rfl ci_1 ?_
  refine gx_sipush X 37 40 (-1000) dX0_begin_37 rfl cs_m1000 ?_
  refine gx_iastore X 40 41 33 (by decide) rfl dX0_begin_40 rfl (fun m5 => ?_)
  refine gx_iconst X 41 42 (0) dX0_begin_41 rfl ci_0 ?_
  refine gx_istore_n X 42 43 (fun x6 => [(1, .int x6), (0, .ref (adr 30))]) dX0_begin_42 rfl rfl (by decide) (fun _ => rfl) (fun x6 => ?_)
  refine gx_jn (fun (k : Mm → Aa) => ∀ (m7 : Mm), mm_G p l e rX0_begin s m args below meth c 2 D cA adr sX NX (mm_Qv D cA adr sX NX) m7 66 [] [] (k m7)) ?_ (fun k_66 hk_66 => ?_)
  · intro m7
    exact gx_vret X 66 hr dX0_begin_66
  refine gx_sub [1, 0] rfl ?_
  refine mm_lk_ind (fun (rec : Int32 → Mm → Aa) => ∀ (x8 : Int32) (m9 : Mm), mm_G p l e rX0_begin s m args below meth c 2 D cA adr sX NX (mm_Qv D cA adr sX NX) m9 43 [(0, .ref (adr 30)), (1, .int x8)] [] (rec x8 m9)) (fun _ _ => gx_none) (fun rec_43 hr_43 x8 m9 => ?_) mm_fu x6 m5
  unfold fX0_begin_L43
  refine gx_iload_n X 43 44 1 dX0_begin_43 rfl rfl rfl ?_
  refine gx_aload_n X 44 45 0 dX0_begin_44 rfl rfl rfl ?_
  refine gx_getI X 45 48 30 (by decide) rfl rfl fg_X0_38 dX0_begin_45 rfl ?_
  refine gx_icmp_ge X 48 66 51 dX0_begin_48 rfl rfl ?_ ?_
  · refine gx_sub [] rfl ?_
    exact hk_66 m9
  refine gx_aload_n X 51 52 0 dX0_begin_51 rfl rfl rfl ?_
  refine gx_getR X 52 55 30 (by decide) rfl rfl fg_X0_11 dX0_begin_52 rfl ?_
  refine gx_iload_n X 55 56 1 dX0_begin_55 rfl rfl rfl ?_
  refine gx_aaload X 56 57 31 (by decide) rfl rfl rfl dX0_begin_56 rfl (fun h10 => ?_)
  refine gx_callvV X 57 60 ((34 + x8.toNatClampNeg)) (rest := []) (As := []) (tX5_begin hJ ((34 + x8.toNatClampNeg)) (sX_wl h10) (sX_w h10) m9) (sX_wl h10) (sX_w h10) rfl wc_X5_begin wl_X0_131 wi_X5_begin ws_X5_begin wn_X5 rfl hd_X5_begin ⟨Nat.le_of_ble_eq_true rfl, Nat.le_of_ble_eq_true rfl⟩ ⟨rfl, rfl⟩ rfl rfl (Nat.le_of_ble_eq_true rfl) dX0_begin_57 rfl (fun x11 m12 => ?_)
  refine gx_iinc X 60 63 1 (1) (fun x13 => [(1, .int x13), (0, .ref (adr 30))]) dX0_begin_60 rfl rfl ci_1 (by decide) (fun _ => rfl) (fun x13 => ?_)
  refine gx_goto X 63 43 dX0_begin_63 rfl ?_
  refine gx_sub [1, 0] rfl ?_
  exact hr_43 x13 m12
def fX0_quietAfter_L14 (a1 : Int32) (k_47 : Int32 → Mm → Aa) (rec_14 : Int32 → Int32 → Mm → Aa) (x5 : Int32) (x6 : Int32) (m7 : Mm) : Aa := if (m7 30 6) ≤ x6 then (k_47 x5 m7) else (mm_ck x6 10 (mm_cl (fX5_nextTurn ((34 + x6.toNatClampNeg)) a1 (m7 30 3) m7) (fun (x9 : Int32) (m10 : Mm) => mm_lt (if x9 < x5 then x9 else x5) (fun (x11 : Int32) => mm_lt (x6 + 1) (fun (x12 : Int32) => rec_14 x11 x12 m10)))))
def fX0_quietAfter (a1 : Int32) (μ : Mm) : Aa := mm_nz 240 (mm_lt (((a1 / 240) + 1) * 240) (fun (x1 : Int32) => mm_lt 0 (fun (x2 : Int32) => mm_lt (fun (x3 : Int32) (m4 : Mm) => some (if 0 < ((x3 - a1) - 1) then ((x3 - a1) - 1) else 0, m4)) (fun (k_47 : Int32 → Mm → Aa) => mm_lk (fun (_ : Int32) (_ : Int32) (_ : Mm) => (none : Aa)) (fX0_quietAfter_L14 a1 k_47) mm_fu x1 x2 μ))))
abbrev rX0_quietAfter : Room := { frames := 2, cells := 0, slots := 0, locals := 43 }
set_option maxRecDepth 100000 in
set_option maxHeartbeats 8000000 in
theorem tX0_quietAfter {l : Launch} {D : va_G} {cA : Nat → ClassId} {adr : Nat → Nat} {tt sK sV : Nat → Nat} {qv : Value} (hJ : mm_J adr NX) (a1 : Int32) (μ : Mm) : mm_Mi l D cA adr sX NX (mm_SX (mm_A adr NX) tt sK sV qv) yX0_quietAfter cX0_quietAfter 4 (some .int) rX0_quietAfter [.ref (adr 30), .int a1] μ (fX0_quietAfter a1 μ) := by
  refine mm_entryi hJ mm_okX (by decide) (Nat.le_of_ble_eq_true rfl) ⟨rfl, rfl⟩ (fun p e s m below meth c X hr => ?_)
  generalize ([.ref (adr 30), .int a1] : List Value).toArray = args at X ⊢
  refine gx_lv (lv' := [(0, .ref (adr 30)), (1, .int a1)]) rfl ?_
  unfold fX0_quietAfter
  refine gx_iload_n X 0 1 1 dX0_quietAfter_0 rfl rfl rfl ?_
  refine gx_sipush X 1 4 (240) dX0_quietAfter_1 rfl cs_240 ?_
  refine gx_idiv X 4 5 dX0_quietAfter_4 rfl ?_
  refine gx_iconst X 5 6 (1) dX0_quietAfter_5 rfl ci_1 ?_
  refine gx_iadd X 6 7 dX0_quietAfter_6 rfl ?_
  refine gx_sipush X 7 10 (240) dX0_quietAfter_7 rfl cs_240 ?_
  refine gx_imul X 10 11 dX0_quietAfter_10 rfl ?_
  refine gx_istore_n X 11 12 (fun x1 => [(2, .int x1), (0, .ref (adr 30)), (1, .int a1)]) dX0_quietAfter_11 rfl rfl (by decide) (fun _ => rfl) (fun x1 => ?_)
  refine gx_iconst X 12 13 (0) dX0_quietAfter_12 rfl ci_0 ?_
  refine gx_istore_n X 13 14 (fun x2 => [(3, .int x2), (2, .int x1), (0, .ref (adr 30)), (1, .int a1)]) dX0_quietAfter_13 rfl rfl (by decide) (fun _ => rfl) (fun x2 => ?_)
  refine gx_jn (fun (k : Int32 → Mm → Aa) => ∀ (x3 : Int32) (m4 : Mm), mm_G p l e rX0_quietAfter s m args below meth c 4 D cA adr sX NX (mm_Qi D cA adr sX NX) m4 47 [(1, .int a1), (2, .int x3)] [] (k x3 m4)) ?_ (fun k_47 hk_47 => ?_)
  · intro x3 m4
    refine gx_iconst X 47 48 (0) dX0_quietAfter_47 rfl ci_0 ?_
    refine gx_iload_n X 48 49 1 dX0_quietAfter_48 rfl rfl rfl ?_
    refine gx_iload_n X 49 50 0 dX0_quietAfter_49 rfl rfl rfl ?_
    refine gx_isub X 50 51 dX0_quietAfter_50 rfl ?_
    refine gx_iconst X 51 52 (1) dX0_quietAfter_51 rfl ci_1 ?_
    refine gx_isub X 52 53 dX0_quietAfter_52 rfl ?_
    refine gx_mmax X 53 56 wl_X0_135 wt_Mmax wn_J9 wc_Mmax (by decide) (Nat.le_of_ble_eq_true rfl) dX0_quietAfter_53 rfl ?_
    exact gx_iret X 56 hr dX0_quietAfter_56
  refine gx_sub [2, 3, 1, 0] rfl ?_
  refine mm_lk_ind (fun (rec : Int32 → Int32 → Mm → Aa) => ∀ (x5 : Int32) (x6 : Int32) (m7 : Mm), mm_G p l e rX0_quietAfter s m args below meth c 4 D cA adr sX NX (mm_Qi D cA adr sX NX) m7 14 [(0, .ref (adr 30)), (1, .int a1), (2, .int x5), (3, .int x6)] [] (rec x5 x6 m7)) (fun _ _ _ => gx_none) (fun rec_14 hr_14 x5 x6 m7 => ?_) mm_fu x1 x2 μ
  unfold fX0_quietAfter_L14
  refine gx_iload_n X 14 15 3 dX0_quietAfter_14 rfl rfl rfl ?_
  refine gx_aload_n X 15 16 0 dX0_quietAfter_15 rfl rfl rfl ?_
  refine gx_getI X 16 19 30 (by decide) rfl rfl fg_X0_38 dX0_quietAfter_16 rfl ?_
  refine gx_icmp_ge X 19 47 22 dX0_quietAfter_19 rfl rfl ?_ ?_
  · refine gx_sub [1, 2] rfl ?_
    exact hk_47 x5 m7
  refine gx_iload_n X 22 23 2 dX0_quietAfter_22 rfl rfl rfl ?_
  refine gx_aload_n X 23 24 0 dX0_quietAfter_23 rfl rfl rfl ?_
  refine gx_getR X 24 27 30 (by decide) rfl rfl fg_X0_11 dX0_quietAfter_24 rfl ?_
  refine gx_iload_n X 27 28 3 dX0_quietAfter_27 rfl rfl rfl ?_
  refine gx_aaload X 28 29 31 (by decide) rfl rfl rfl dX0_quietAfter_28 rfl (fun h8 => ?_)
  refine gx_iload_n X 29 30 1 dX0_quietAfter_29 rfl rfl rfl ?_
  refine gx_aload_n X 30 31 0 dX0_quietAfter_30 rfl rfl rfl ?_
  refine gx_getI X 31 34 30 (by decide) rfl rfl fg_X0_122 dX0_quietAfter_31 rfl ?_
  refine gx_calliV X 34 37 ((34 + x6.toNatClampNeg)) (rest := [.int x5]) (As := [.int a1, .int (m7 30 3)]) (tX5_nextTurn hJ ((34 + x6.toNatClampNeg)) a1 (m7 30 3) (sX_wl h8) (sX_w h8) m7) (sX_wl h8) (sX_w h8) rfl wc_X5_nextTurn wl_X0_132 wi_X5_nextTurn ws_X5_nextTurn wn_X5 rfl hd_X5_nextTurn ⟨Nat.le_of_ble_eq_true rfl, Nat.le_of_ble_eq_true rfl⟩ ⟨rfl, rfl⟩ rfl rfl (Nat.le_of_ble_eq_true rfl) dX0_quietAfter_34 rfl (fun x9 m10 => ?_)
  refine gx_mmin X 37 40 wl_X0_62 wt_Mmin wn_J9 wc_Mmin (by decide) (Nat.le_of_ble_eq_true rfl) dX0_quietAfter_37 rfl ?_
  refine gx_istore_n X 40 41 (fun x11 => [(2, .int x11), (0, .ref (adr 30)), (1, .int a1), (3, .int x6)]) dX0_quietAfter_40 rfl rfl (by decide) (fun _ => rfl) (fun x11 => ?_)
  refine gx_iinc X 41 44 3 (1) (fun x12 => [(3, .int x12), (2, .int x11), (0, .ref (adr 30)), (1, .int a1)]) dX0_quietAfter_41 rfl rfl ci_1 (by decide) (fun _ => rfl) (fun x12 => ?_)
  refine gx_goto X 44 14 dX0_quietAfter_44 rfl ?_
  refine gx_sub [2, 3, 1, 0] rfl ?_
  exact hr_14 x11 x12 m10
