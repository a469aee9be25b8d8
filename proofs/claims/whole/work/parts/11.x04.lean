def fX0_haveNight (a1 : Int32) (μ : Mm) : Aa := mm_lt (fun (m1 : Mm) => some (0, m1)) (fun (k_31 : Mm → Aa) => if a1 ≤ 0 then (k_31 μ) else (mm_nz 240 (if (a1 - a1 / 240 * 240) = 0 then (mm_ck 3 6 (mm_lt (mm_wr μ 30 3 (if 1 < ((μ 30 3) - (μ 32 (3 : Int32).toNatClampNeg)) then ((μ 30 3) - (μ 32 (3 : Int32).toNatClampNeg)) else 1)) (fun (m2 : Mm) => k_31 m2))) else (k_31 μ))))
abbrev rX0_haveNight : Room := { frames := 1, cells := 0, slots := 0, locals := 21 }
set_option maxRecDepth 100000 in
set_option maxHeartbeats 8000000 in
theorem tX0_haveNight {l : Launch} {D : va_G} {cA : Nat → ClassId} {adr : Nat → Nat} {tt sK sV : Nat → Nat} {qv : Value} (hJ : mm_J adr NX) (a1 : Int32) (μ : Mm) : mm_Mv l D cA adr sX NX (mm_SX (mm_A adr NX) tt sK sV qv) yX0_haveNight cX0_haveNight 2 none rX0_haveNight [.ref (adr 30), .int a1] μ (fX0_haveNight a1 μ) := by
  refine mm_entryv hJ mm_okX (by decide) (Nat.le_of_ble_eq_true rfl) ⟨rfl, rfl⟩ (fun p e s m below meth c X hr => ?_)
  generalize ([.ref (adr 30), .int a1] : List Value).toArray = args at X ⊢
  refine gx_lv (lv' := [(0, .ref (adr 30)), (1, .int a1)]) rfl ?_
  unfold fX0_haveNight
  refine gx_iload_n X 0 1 1 dX0_haveNight_0 rfl rfl rfl ?_
  refine gx_jn (fun (k : Mm → Aa) => ∀ (m1 : Mm), mm_G p l e rX0_haveNight s m args below meth c 2 D cA adr sX NX (mm_Qv D cA adr sX NX) m1 31 [] [] (k m1)) ?_ (fun k_31 hk_31 => ?_)
  · intro m1
    exact gx_vret X 31 hr dX0_haveNight_31
  refine gx_if_le X 1 31 4 dX0_haveNight_1 rfl rfl ?_ ?_
  · refine gx_sub [] rfl ?_
    exact hk_31 μ
  refine gx_iload_n X 4 5 1 dX0_haveNight_4 rfl rfl rfl ?_
  refine gx_sipush X 5 8 (240) dX0_haveNight_5 rfl cs_240 ?_
  refine gx_irem X 8 9 dX0_haveNight_8 rfl ?_
  refine gx_if_ne X 9 31 12 dX0_haveNight_9 rfl rfl ?_ ?_
  · refine gx_sub [] rfl ?_
    exact hk_31 μ
  refine gx_aload_n X 12 13 0 dX0_haveNight_12 rfl rfl rfl ?_
  refine gx_iconst X 13 14 (1) dX0_haveNight_13 rfl ci_1 ?_
  refine gx_aload_n X 14 15 0 dX0_haveNight_14 rfl rfl rfl ?_
  refine gx_getI X 15 18 30 (by decide) rfl rfl fg_X0_122 dX0_haveNight_15 rfl ?_
  refine gx_aload_n X 18 19 0 dX0_haveNight_18 rfl rfl rfl ?_
  refine gx_getR X 19 22 30 (by decide) rfl rfl fg_X0_17 dX0_haveNight_19 rfl ?_
  refine gx_iconst X 22 23 (3) dX0_haveNight_22 rfl ci_3 ?_
  refine gx_iaload X 23 24 32 (by decide) rfl dX0_haveNight_23 rfl ?_
  refine gx_isub X 24 25 dX0_haveNight_24 rfl ?_
  refine gx_mmax X 25 28 wl_X0_135 wt_Mmax wn_J9 wc_Mmax (by decide) (Nat.le_of_ble_eq_true rfl) dX0_haveNight_25 rfl ?_
  refine gx_putI X 28 31 30 (by decide) rfl rfl fp_X0_122 dX0_haveNight_28 rfl (fun m2 => ?_)
  refine gx_sub [] rfl ?_
  exact hk_31 m2
def fX0_walk_L2 (k_56 : Mm → Aa) (rec_2 : Int32 → Mm → Aa) (x3 : Int32) (m4 : Mm) : Aa := if (m4 30 6) ≤ x3 then (k_56 m4) else (mm_ck x3 10 (mm_lt (fun (m6 : Mm) => mm_lt (x3 + 1) (fun (x7 : Int32) => rec_2 x7 m6)) (fun (k_50 : Mm → Aa) => if (m4 ((34 + x3.toNatClampNeg)) 8) = 1 then (mm_cl (fX5_pass ((34 + x3.toNatClampNeg)) 1 m4) (fun (x8 : Int32) (m9 : Mm) => mm_lt (fun (x10 : Int32) (m11 : Mm) => mm_lt (mm_wr m11 ((34 + x3.toNatClampNeg)) 8 x10) (fun (m12 : Mm) => k_50 m12)) (fun (k_47 : Int32 → Mm → Aa) => if (m9 ((34 + x3.toNatClampNeg)) 12) < (m9 30 3) then (k_47 1 m9) else (k_47 2 m9)))) else (k_50 m4))))
def fX0_walk (μ : Mm) : Aa := mm_lt 0 (fun (x1 : Int32) => mm_lt (fun (m2 : Mm) => some (0, m2)) (fun (k_56 : Mm → Aa) => mm_lk (fun (_ : Int32) (_ : Mm) => (none : Aa)) (fX0_walk_L2 k_56) mm_fu x1 μ))
abbrev rX0_walk : Room := { frames := 1, cells := 0, slots := 0, locals := 21 }
set_option maxRecDepth 100000 in
set_option maxHeartbeats 8000000 in
theorem tX0_walk {l : Launch} {D : va_G} {cA : Nat → ClassId} {adr : Nat → Nat} {tt sK sV : Nat → Nat} {qv : Value} (hJ : mm_J adr NX) (μ : Mm) : mm_Mv l D cA adr sX NX (mm_SX (mm_A adr NX) tt sK sV qv) yX0_walk cX0_walk 3 none rX0_walk [.ref (adr 30)] μ (fX0_walk μ) := by
  refine mm_entryv hJ mm_okX (by decide) (Nat.le_of_ble_eq_true rfl) ⟨rfl, rfl⟩ (fun p e s m below meth c X hr => ?_)
  generalize ([.ref (adr 30)] : List Value).toArray = args at X ⊢
  refine gx_lv (lv' := [(0, .ref (adr 30))]) rfl ?_
  unfold fX0_walk
  refine gx_iconst X 0 1 (0) dX0_walk_0 rfl ci_0 ?_
  refine gx_istore_n X 1 2 (fun x1 => [(1, .int x1), (0, .ref (adr 30))]) dX0_walk_1 rfl rfl (by decide) (fun _ => rfl) (fun x1 => ?_)
  refine gx_jn (fun (k : Mm → Aa) => ∀ (m2 : Mm), mm_G p l e rX0_walk s m args below meth c 3 D cA adr sX NX (mm_Qv D cA adr sX NX) m2 56 [] [] (k m2)) ?_ (fun k_56 hk_56 => ?_)
  · intro m2
    exact gx_vret X 56 hr dX0_walk_56
  refine gx_sub [1, 0] rfl ?_
  refine mm_lk_ind (fun (rec : Int32 → Mm → Aa) => ∀ (x3 : Int32) (m4 : Mm), mm_G p l e rX0_walk s m args below meth c 3 D cA adr sX NX (mm_Qv D cA adr sX NX) m4 2 [(0, .ref (adr 30)), (1, .int x3)] [] (rec x3 m4)) (fun _ _ => gx_none) (fun rec_2 hr_2 x3 m4 => ?_) mm_fu x1 μ
  unfold fX0_walk_L2
  refine gx_iload_n X 2 3 1 dX0_walk_2 rfl rfl rfl ?_
  refine gx_aload_n X 3 4 0 dX0_walk_3 rfl rfl rfl ?_
  refine gx_getI X 4 7 30 (by decide) rfl rfl fg_X0_38 dX0_walk_4 rfl ?_
  refine gx_icmp_ge X 7 56 10 dX0_walk_7 rfl rfl ?_ ?_
  · refine gx_sub [] rfl ?_
    exact hk_56 m4
  refine gx_aload_n X 10 11 0 dX0_walk_10 rfl rfl rfl ?_
  refine gx_getR X 11 14 30 (by decide) rfl rfl fg_X0_11 dX0_walk_11 rfl ?_
  refine gx_iload_n X 14 15 1 dX0_walk_14 rfl rfl rfl ?_
  refine gx_aaload X 15 16 31 (by decide) rfl rfl rfl dX0_walk_15 rfl (fun h5 => ?_)
  refine gx_astore_n X 16 17 [(2, .ref (adr ((34 + x3.toNatClampNeg)))), (0, .ref (adr 30)), (1, .int x3)] dX0_walk_16 rfl rfl (by decide) rfl ?_
  refine gx_aload_n X 17 18 0 dX0_walk_17 rfl rfl rfl ?_
  refine gx_getI X 18 21 ((34 + x3.toNatClampNeg)) (sX_wl h5) (sX_w h5) rfl fg_X0_138 dX0_walk_18 rfl ?_
  refine gx_iconst X 21 22 (1) dX0_walk_21 rfl ci_1 ?_
  refine gx_jn (fun (k : Mm → Aa) => ∀ (m6 : Mm), mm_G p l e rX0_walk s m args below meth c 3 D cA adr sX NX (mm_Qv D cA adr sX NX) m6 50 [(0, .ref (adr 30)), (1, .int x3)] [] (k m6)) ?_ (fun k_50 hk_50 => ?_)
  · intro m6
    refine gx_iinc X 50 53 1 (1) (fun x7 => [(1, .int x7), (0, .ref (adr 30))]) dX0_walk_50 rfl rfl ci_1 (by decide) (fun _ => rfl) (fun x7 => ?_)
    refine gx_goto X 53 2 dX0_walk_53 rfl ?_
    refine gx_sub [1, 0] rfl ?_
    exact hr_2 x7 m6
  refine gx_icmp_ne X 22 50 25 dX0_walk_22 rfl rfl ?_ ?_
  · refine gx_sub [1, 2] rfl ?_
    exact hk_50 m4
  refine gx_aload_n X 25 26 0 dX0_walk_25 rfl rfl rfl ?_
  refine gx_iconst X 26 27 (1) dX0_walk_26 rfl ci_1 ?_
  refine gx_callvV X 27 30 ((34 + x3.toNatClampNeg)) (rest := []) (As := [.int 1]) (tX5_pass hJ ((34 + x3.toNatClampNeg)) 1 (sX_wl h5) (sX_w h5) m4) (sX_wl h5) (sX_w h5) rfl wc_X5_pass wl_X0_119 wi_X5_pass ws_X5_pass wn_X5 rfl hd_X5_pass ⟨Nat.le_of_ble_eq_true rfl, Nat.le_of_ble_eq_true rfl⟩ ⟨rfl, rfl⟩ rfl rfl (Nat.le_of_ble_eq_true rfl) dX0_walk_27 rfl (fun x8 m9 => ?_)
  refine gx_aload_n X 30 31 0 dX0_walk_30 rfl rfl rfl ?_
  refine gx_aload_n X 31 32 0 dX0_walk_31 rfl rfl rfl ?_
  refine gx_getI X 32 35 ((34 + x3.toNatClampNeg)) (sX_wl h5) (sX_w h5) rfl fg_X0_141 dX0_walk_32 rfl ?_
  refine gx_aload_n X 35 36 1 dX0_walk_35 rfl rfl rfl ?_
  refine gx_getI X 36 39 30 (by decide) rfl rfl fg_X0_122 dX0_walk_36 rfl ?_
  refine gx_jn (fun (k : Int32 → Mm → Aa) => ∀ (x10 : Int32) (m11 : Mm), mm_G p l e rX0_walk s m args below meth c 3 D cA adr sX NX (mm_Qv D cA adr sX NX) m11 47 [(0, .ref (adr 30)), (1, .int x3)] [.int x10, .ref (adr ((34 + x3.toNatClampNeg)))] (k x10 m11)) ?_ (fun k_47 hk_47 => ?_)
  · intro x10 m11
    refine gx_putI X 47 50 ((34 + x3.toNatClampNeg)) (sX_wl h5) (sX_w h5) rfl fp_X0_138 dX0_walk_47 rfl (fun m12 => ?_)
    exact hk_50 m12
  refine gx_icmp_lt X 39 46 42 dX0_walk_39 rfl rfl ?_ ?_
  · refine gx_iconst X 46 47 (1) dX0_walk_46 rfl ci_1 ?_
    refine gx_sub [1, 2] rfl ?_
    exact hk_47 1 m9
  refine gx_iconst X 42 43 (2) dX0_walk_42 rfl ci_2 ?_
  refine gx_goto X 43 47 dX0_walk_43 rfl ?_
  refine gx_sub [1, 2] rfl ?_
  exact hk_47 2 m9
def fX0_countOf (a1 : Int32) (a2 : Int32) (a3 : Int32) (μ : Mm) : Aa := mm_lt (fun (m1 : Mm) => some (a1, m1)) (fun (k_14 : Mm → Aa) => if a1 = 0 then (k_14 μ) else (mm_ck 1 6 (if (μ 32 (1 : Int32).toNatClampNeg) = 1 then (k_14 μ) else (mm_ck 1 6 (mm_lt (fun (m2 : Mm) => mm_ck a2 2 (mm_lt (mm_wr m2 33 a2.toNatClampNeg a3) (fun (m3 : Mm) => some (1, m3)))) (fun (k_45 : Mm → Aa) => if (μ 32 (1 : Int32).toNatClampNeg) = 2 then (mm_ck a2 2 (mm_ck 2 6 (if (μ 33 a2.toNatClampNeg) < (a3 - (μ 32 (2 : Int32).toNatClampNeg)) then (k_45 μ) else (some (0, μ))))) else (k_45 μ)))))))
abbrev rX0_countOf : Room := { frames := 0, cells := 0, slots := 0, locals := 0 }
set_option maxRecDepth 100000 in
set_option maxHeartbeats 8000000 in
theorem tX0_countOf {l : Launch} {D : va_G} {cA : Nat → ClassId} {adr : Nat → Nat} {tt sK sV : Nat → Nat} {qv : Value} (hJ : mm_J adr NX) (a1 : Int32) (a2 : Int32) (a3 : Int32) (μ : Mm) : mm_Mi l D cA adr sX NX (mm_SX (mm_A adr NX) tt sK sV qv) yX0_countOf cX0_countOf 4 (some .int) rX0_countOf [.ref (adr 30), .int a1, .int a2, .int a3] μ (fX0_countOf a1 a2 a3 μ) := by
  refine mm_entryi hJ mm_okX (by decide) (Nat.le_of_ble_eq_true rfl) ⟨rfl, rfl⟩ (fun p e s m below meth c X hr => ?_)
  generalize ([.ref (adr 30), .int a1, .int a2, .int a3] : List Value).toArray = args at X ⊢
  refine gx_lv (lv' := [(0, .ref (adr 30)), (1, .int a1), (2, .int a2), (3, .int a3)]) rfl ?_
  unfold fX0_countOf
  refine gx_iload_n X 0 1 1 dX0_countOf_0 rfl rfl rfl ?_
  refine gx_jn (fun (k : Mm → Aa) => ∀ (m1 : Mm), mm_G p l e rX0_countOf s m args below meth c 4 D cA adr sX NX (mm_Qi D cA adr sX NX) m1 14 [(1, .int a1)] [] (k m1)) ?_ (fun k_14 hk_14 => ?_)
  · intro m1
    refine gx_iload_n X 14 15 0 dX0_countOf_14 rfl rfl rfl ?_
    exact gx_iret X 15 hr dX0_countOf_15
  refine gx_if_eq X 1 14 4 dX0_countOf_1 rfl rfl ?_ ?_
  · refine gx_sub [1] rfl ?_
    exact hk_14 μ
  refine gx_aload_n X 4 5 0 dX0_countOf_4 rfl rfl rfl ?_
  refine gx_getR X 5 8 30 (by decide) rfl rfl fg_X0_17 dX0_countOf_5 rfl ?_
  refine gx_iconst X 8 9 (1) dX0_countOf_8 rfl ci_1 ?_
  refine gx_iaload X 9 10 32 (by decide) rfl dX0_countOf_9 rfl ?_
  refine gx_iconst X 10 11 (1) dX0_countOf_10 rfl ci_1 ?_
  refine gx_icmp_ne X 11 16 14 dX0_countOf_11 rfl rfl ?_ ?_
  · refine gx_aload_n X 16 17 0 dX0_countOf_16 rfl rfl rfl ?_
    refine gx_getR X 17 20 30 (by decide) rfl rfl fg_X0_17 dX0_countOf_17 rfl ?_
    refine gx_iconst X 20 21 (1) dX0_countOf_20 rfl ci_1 ?_
    refine gx_iaload X 21 22 32 (by decide) rfl dX0_countOf_21 rfl ?_
    refine gx_iconst X 22 23 (2) dX0_countOf_22 rfl ci_2 ?_
    refine gx_jn (fun (k : Mm → Aa) => ∀ (m2 : Mm), mm_G p l e rX0_countOf s m args below meth c 4 D cA adr sX NX (mm_Qi D cA adr sX NX) m2 45 [(0, .ref (adr 30)), (2, .int a2), (3, .int a3)] [] (k m2)) ?_ (fun k_45 hk_45 => ?_)
    · intro m2
      refine gx_aload_n X 45 46 0 dX0_countOf_45 rfl rfl rfl ?_
      refine gx_getR X 46 49 30 (by decide) rfl rfl fg_X0_21 dX0_countOf_46 rfl ?_
      refine gx_iload_n X 49 50 1 dX0_countOf_49 rfl rfl rfl ?_
      refine gx_iload_n X 50 51 2 dX0_countOf_50 rfl rfl rfl ?_
      refine gx_iastore X 51 52 33 (by decide) rfl dX0_countOf_51 rfl (fun m3 => ?_)
      refine gx_iconst X 52 53 (1) dX0_countOf_52 rfl ci_1 ?_
      exact gx_iret X 53 hr dX0_countOf_53
    refine gx_icmp_ne X 23 45 26 dX0_countOf_23 rfl rfl ?_ ?_
    · refine gx_sub [0, 2, 3] rfl ?_
      exact hk_45 μ
    refine gx_aload_n X 26 27 0 dX0_countOf_26 rfl rfl rfl ?_
    refine gx_getR X 27 30 30 (by decide) rfl rfl fg_X0_21 dX0_countOf_27 rfl ?_
    refine gx_iload_n X 30 31 2 dX0_countOf_30 rfl rfl rfl ?_
    refine gx_iaload X 31 32 33 (by decide) rfl dX0_countOf_31 rfl ?_
    refine gx_iload_n X 32 33 3 dX0_countOf_32 rfl rfl rfl ?_
    refine gx_aload_n X 33 34 0 dX0_countOf_33 rfl rfl rfl ?_
    refine gx_getR X 34 37 30 (by decide) rfl rfl fg_X0_17 dX0_countOf_34 rfl ?_
    refine gx_iconst X 37 38 (2) dX0_countOf_37 rfl ci_2 ?_
    refine gx_iaload X 38 39 32 (by decide) rfl dX0_countOf_38 rfl ?_
    refine gx_isub X 39 40 dX0_countOf_39 rfl ?_
    refine gx_icmp_lt X 40 45 43 dX0_countOf_40 rfl rfl ?_ ?_
    · refine gx_sub [0, 2, 3] rfl ?_
      exact hk_45 μ
    refine gx_iconst X 43 44 (0) dX0_countOf_43 rfl ci_0 ?_
    exact gx_iret X 44 hr dX0_countOf_44
  refine gx_sub [1] rfl ?_
  exact hk_14 μ
def fX0_stepOffFrom_L8 (a1 : Int32) (a2 : Int32) (k_106 : Int32 → Int32 → Mm → Aa) (rec_8 : Int32 → Int32 → Int32 → Mm → Aa) (x11 : Int32) (x12 : Int32) (x13 : Int32) (m14 : Mm) : Aa := if (m14 30 6) ≤ x13 then (k_106 x11 x12 m14) else (mm_ck x13 10 (mm_lt (fun (x16 : Int32) (x17 : Int32) (m18 : Mm) => mm_lt (x13 + 1) (fun (x19 : Int32) => rec_8 x16 x17 x19 m18)) (fun (k_100 : Int32 → Int32 → Mm → Aa) => if (m14 ((34 + x13.toNatClampNeg)) 8) = 2 then (if (m14 ((34 + x13.toNatClampNeg)) 9) = a1 then (mm_cl (fX0_isHeldBack ((34 + x13.toNatClampNeg)) m14) (fun (x20 : Int32) (m21 : Mm) => if x20 = 0 then (mm_cl (fX5_comeOver ((34 + x13.toNatClampNeg)) a2 m21) (fun (x22 : Int32) (m23 : Mm) => if (m23 ((34 + x13.toNatClampNeg)) 5) = 0 then (mm_lt (x11 ||| (1 <<< ((m23 ((34 + x13.toNatClampNeg)) 6) &&& 31))) (fun (x24 : Int32) => k_100 x24 x12 m23)) else (mm_lt (x12 + 1) (fun (x25 : Int32) => k_100 x11 x25 m23)))) else (mm_lt (mm_wr m21 ((34 + x13.toNatClampNeg)) 16 ((m21 ((34 + x13.toNatClampNeg)) 16) + 1)) (fun (m26 : Mm) => k_100 x11 x12 m26)))) else (k_100 x11 x12 m14)) else (k_100 x11 x12 m14))))
def fX0_stepOffFrom (a1 : Int32) (a2 : Int32) (μ : Mm) : Aa := mm_lt 0 (fun (x1 : Int32) => mm_lt 0 (fun (x2 : Int32) => mm_lt 0 (fun (x3 : Int32) => mm_lt (fun (x4 : Int32) (x5 : Int32) (m6 : Mm) => mm_cl (fJ6_bitCount x4 m6) (fun (x7 : Int32) (m8 : Mm) => mm_cl (fX0_countOf x7 a1 a2 m8) (fun (x9 : Int32) (m10 : Mm) => some (x5 + x9, m10)))) (fun (k_106 : Int32 → Int32 → Mm → Aa) => mm_lk (fun (_ : Int32) (_ : Int32) (_ : Int32) (_ : Mm) => (none : Aa)) (fX0_stepOffFrom_L8 a1 a2 k_106) mm_fu x1 x2 x3 μ))))
abbrev rX0_stepOffFrom : Room := { frames := 1, cells := 0, slots := 0, locals := 23 }
set_option maxRecDepth 100000 in
set_option maxHeartbeats 8000000 in
theorem tX0_stepOffFrom {l : Launch} {D : va_G} {cA : Nat → ClassId} {adr : Nat → Nat} {tt sK sV : Nat → Nat} {qv : Value} (hJ : mm_J adr NX) (a1 : Int32) (a2 : Int32) (μ : Mm) : mm_Mi l D cA adr sX NX (mm_SX (mm_A adr NX) tt sK sV qv) yX0_stepOffFrom cX0_stepOffFrom 7 (some .int) rX0_stepOffFrom [.ref (adr 30), .int a1, .int a2] μ (fX0_stepOffFrom a1 a2 μ) := by
  refine mm_entryi hJ mm_okX (by decide) (Nat.le_of_ble_eq_true rfl) ⟨rfl, rfl⟩ (fun p e s m below meth c X hr => ?_)
  generalize ([.ref (adr 30), .int a1, .int a2] : List Value).toArray = args at X ⊢
  refine gx_lv (lv' := [(0, .ref (adr 30)), (1, .int a1), (2, .int a2)]) rfl ?_
  unfold fX0_stepOffFrom
  refine gx_iconst X 0 1 (0) dX0_stepOffFrom_0 rfl ci_0 ?_
  refine gx_istore_n X 1 2 (fun x1 => [(3, .int x1), (0, .ref (adr 30)), (1, .int a1), (2, .int a2)]) dX0_stepOffFrom_1 rfl rfl (by decide) (fun _ => rfl) (fun x1 => ?_)
  refine gx_iconst X 2 3 (0) dX0_stepOffFrom_2 rfl ci_0 ?_
  refine gx_istore X 3 5 (fun x2 => [(4, .int x2), (3, .int x1), (0, .ref (adr 30)), (1, .int a1), (2, .int a2)]) dX0_stepOffFrom_3 rfl (by decide) (fun _ => rfl) (fun x2 => ?_)
  refine gx_iconst X 5 6 (0) dX0_stepOffFrom_5 rfl ci_0 ?_
  refine gx_istore X 6 8 (fun x3 => [(5, .int x3), (4, .int x2), (3, .int x1), (0, .ref (adr 30)), (1, .int a1), (2, .int a2)]) dX0_stepOffFrom_6 rfl (by decide) (fun _ => rfl) (fun x3 => ?_)
  refine gx_jn (fun (k : Int32 → Int32 → Mm → Aa) => ∀ (x4 : Int32) (x5 : Int32) (m6 : Mm), mm_G p l e rX0_stepOffFrom s m args below meth c 7 D cA adr sX NX (mm_Qi D cA adr sX NX) m6 106 [(0, .ref (adr 30)), (1, .int a1), (2, .int a2), (3, .int x4), (4, .int x5)] [] (k x4 x5 m6)) ?_ (fun k_106 hk_106 => ?_)
  · intro x4 x5 m6
    refine gx_iload X 106 108 4 dX0_stepOffFrom_106 rfl rfl ?_
    refine gx_aload_n X 108 109 0 dX0_stepOffFrom_108 rfl rfl rfl ?_
    refine gx_iload_n X 109 110 3 dX0_stepOffFrom_109 rfl rfl rfl ?_
    refine gx_calliS X 110 113 (rest := [.ref (adr 30), .int x5]) (As := [.int x4]) (tJ6_bitCount hJ x4 m6) wc_J6_bitCount_0f7a4 wl_X0_160 wt_J6_bitCount_0f7a4 wn_J6 hd_J6_bitCount_0f7a4 ⟨Nat.le_of_ble_eq_true rfl, Nat.le_of_ble_eq_true rfl⟩ ⟨rfl, rfl⟩ rfl rfl (Nat.le_of_ble_eq_true rfl) dX0_stepOffFrom_110 rfl (fun x7 m8 => ?_)
    refine gx_iload_n X 113 114 1 dX0_stepOffFrom_113 rfl rfl rfl ?_
    refine gx_iload_n X 114 115 2 dX0_stepOffFrom_114 rfl rfl rfl ?_
    refine gx_calliV X 115 118 30 (rest := [.int x5]) (As := [.int x7, .int a1, .int a2]) (tX0_countOf hJ x7 a1 a2 m8) (by decide) rfl rfl wc_X0_countOf wl_X0_165 wi_X0_countOf ws_X0_countOf wn_X0 rfl hd_X0_countOf ⟨Nat.le_of_ble_eq_true rfl, Nat.le_of_ble_eq_true rfl⟩ ⟨rfl, rfl⟩ rfl rfl (Nat.le_of_ble_eq_true rfl) dX0_stepOffFrom_115 rfl (fun x9 m10 => ?_)
    refine gx_iadd X 118 119 dX0_stepOffFrom_118 rfl ?_
    exact gx_iret X 119 hr dX0_stepOffFrom_119
  refine gx_sub [3, 4, 5, 2, 1, 0] rfl ?_
  refine mm_lk_ind (fun (rec : Int32 → Int32 → Int32 → Mm → Aa) => ∀ (x11 : Int32) (x12 : Int32) (x13 : Int32) (m14 : Mm), mm_G p l e rX0_stepOffFrom s m args below meth c 7 D cA adr sX NX (mm_Qi D cA adr sX NX) m14 8 [(0, .ref (adr 30)), (1, .int a1), (2, .int a2), (3, .int x11), (4, .int x12), (5, .int x13)] [] (rec x11 x12 x13 m14)) (fun _ _ _ _ => gx_none) (fun rec_8 hr_8 x11 x12 x13 m14 => ?_) mm_fu x1 x2 x3 μ
  unfold fX0_stepOffFrom_L8
  refine gx_iload X 8 10 5 dX0_stepOffFrom_8 rfl rfl ?_
  refine gx_aload_n X 10 11 0 dX0_stepOffFrom_10 rfl rfl rfl ?_
  refine gx_getI X 11 14 30 (by decide) rfl rfl fg_X0_38 dX0_stepOffFrom_11 rfl ?_
  refine gx_icmp_ge X 14 106 17 dX0_stepOffFrom_14 rfl rfl ?_ ?_
  · refine gx_sub [0, 1, 2, 3, 4] rfl ?_
    exact hk_106 x11 x12 m14
  refine gx_aload_n X 17 18 0 dX0_stepOffFrom_17 rfl rfl rfl ?_
  refine gx_getR X 18 21 30 (by decide) rfl rfl fg_X0_11 dX0_stepOffFrom_18 rfl ?_
  refine gx_iload X 21 23 5 dX0_stepOffFrom_21 rfl rfl ?_
  refine gx_aaload X 23 24 31 (by decide) rfl rfl rfl dX0_stepOffFrom_23 rfl (fun h15 => ?_)
  refine gx_astore X 24 26 [(6, .ref (adr ((34 + x13.toNatClampNeg)))), (0, .ref (adr 30)), (1, .int a1), (2, .int a2), (3, .int x11), (4, .int x12), (5, .int x13)] dX0_stepOffFrom_24 rfl (by decide) rfl ?_
  refine gx_aload X 26 28 0 dX0_stepOffFrom_26 rfl rfl ?_
  refine gx_getI X 28 31 ((34 + x13.toNatClampNeg)) (sX_wl h15) (sX_w h15) rfl fg_X0_138 dX0_stepOffFrom_28 rfl ?_
  refine gx_iconst X 31 32 (2) dX0_stepOffFrom_31 rfl ci_2 ?_
  refine gx_jn (fun (k : Int32 → Int32 → Mm → Aa) => ∀ (x16 : Int32) (x17 : Int32) (m18 : Mm), mm_G p l e rX0_stepOffFrom s m args below meth c 7 D cA adr sX NX (mm_Qi D cA adr sX NX) m18 100 [(0, .ref (adr 30)), (1, .int a1), (2, .int a2), (3, .int x16), (4, .int x17), (5, .int x13)] [] (k x16 x17 m18)) ?_ (fun k_100 hk_100 => ?_)
  · intro x16 x17 m18
    refine gx_iinc X 100 103 5 (1) (fun x19 => [(5, .int x19), (0, .ref (adr 30)), (1, .int a1), (2, .int a2), (3, .int x16), (4, .int x17)]) dX0_stepOffFrom_100 rfl rfl ci_1 (by decide) (fun _ => rfl) (fun x19 => ?_)
    refine gx_goto X 103 8 dX0_stepOffFrom_103 rfl ?_
    refine gx_sub [1, 2, 3, 4, 5, 0] rfl ?_
    exact hr_8 x16 x17 x19 m18
  refine gx_icmp_ne X 32 100 35 dX0_stepOffFrom_32 rfl rfl ?_ ?_
  · refine gx_sub [1, 2, 3, 4, 5, 6] rfl ?_
    exact hk_100 x11 x12 m14
  refine gx_aload X 35 37 0 dX0_stepOffFrom_35 rfl rfl ?_
  refine gx_getI X 37 40 ((34 + x13.toNatClampNeg)) (sX_wl h15) (sX_w h15) rfl fg_X0_147 dX0_stepOffFrom_37 rfl ?_
  refine gx_iload_n X 40 41 2 dX0_stepOffFrom_40 rfl rfl rfl ?_
  refine gx_icmp_eq X 41 47 44 dX0_stepOffFrom_41 rfl rfl ?_ ?_
  · refine gx_aload_n X 47 48 1 dX0_stepOffFrom_47 rfl rfl rfl ?_
    refine gx_aload X 48 50 0 dX0_stepOffFrom_48 rfl rfl ?_
    refine gx_calliV X 50 53 30 (rest := []) (As := [.ref (adr ((34 + x13.toNatClampNeg)))]) (tX0_isHeldBack hJ ((34 + x13.toNatClampNeg)) (sX_wl h15) (sX_w h15) m14) (by decide) rfl rfl wc_X0_isHeldBack wl_X0_150 wi_X0_isHeldBack ws_X0_isHeldBack wn_X0 rfl hd_X0_isHeldBack ⟨Nat.le_of_ble_eq_true rfl, Nat.le_of_ble_eq_true rfl⟩ ⟨rfl, rfl⟩ rfl rfl (Nat.le_of_ble_eq_true rfl) dX0_stepOffFrom_50 rfl (fun x20 m21 => ?_)
    refine gx_if_eq X 53 70 56 dX0_stepOffFrom_53 rfl rfl ?_ ?_
    · refine gx_aload X 70 72 0 dX0_stepOffFrom_70 rfl rfl ?_
      refine gx_iload_n X 72 73 3 dX0_stepOffFrom_72 rfl rfl rfl ?_
      refine gx_callvV X 73 76 ((34 + x13.toNatClampNeg)) (rest := []) (As := [.int a2]) (tX5_comeOver hJ ((34 + x13.toNatClampNeg)) a2 (sX_wl h15) (sX_w h15) m21) (sX_wl h15) (sX_w h15) rfl wc_X5_comeOver wl_X0_157 wi_X5_comeOver ws_X5_comeOver wn_X5 rfl hd_X5_comeOver ⟨Nat.le_of_ble_eq_true rfl, Nat.le_of_ble_eq_true rfl⟩ ⟨rfl, rfl⟩ rfl rfl (Nat.le_of_ble_eq_true rfl) dX0_stepOffFrom_73 rfl (fun x22 m23 => ?_)
      refine gx_aload X 76 78 0 dX0_stepOffFrom_76 rfl rfl ?_
      refine gx_getI X 78 81 ((34 + x13.toNatClampNeg)) (sX_wl h15) (sX_w h15) rfl fg_X0_90 dX0_stepOffFrom_78 rfl ?_
      refine gx_if_eq X 81 90 84 dX0_stepOffFrom_81 rfl rfl ?_ ?_
      · refine gx_iload_n X 90 91 4 dX0_stepOffFrom_90 rfl rfl rfl ?_
        refine gx_iconst X 91 92 (1) dX0_stepOffFrom_91 rfl ci_1 ?_
        refine gx_aload X 92 94 0 dX0_stepOffFrom_92 rfl rfl ?_
        refine gx_getI X 94 97 ((34 + x13.toNatClampNeg)) (sX_wl h15) (sX_w h15) rfl fg_X0_94 dX0_stepOffFrom_94 rfl ?_
        refine gx_ishl X 97 98 dX0_stepOffFrom_97 rfl ?_
        refine gx_ior X 98 99 dX0_stepOffFrom_98 rfl ?_
        refine gx_istore_n X 99 100 (fun x24 => [(3, .int x24), (6, .ref (adr ((34 + x13.toNatClampNeg)))), (0, .ref (adr 30)), (1, .int a1), (2, .int a2), (4, .int x12), (5, .int x13)]) dX0_stepOffFrom_99 rfl rfl (by decide) (fun _ => rfl) (fun x24 => ?_)
        refine gx_sub [2, 3, 4, 0, 5, 6] rfl ?_
        exact hk_100 x24 x12 m23
      refine gx_iinc X 84 87 5 (1) (fun x25 => [(4, .int x25), (6, .ref (adr ((34 + x13.toNatClampNeg)))), (0, .ref (adr 30)), (1, .int a1), (2, .int a2), (3, .int x11), (5, .int x13)]) dX0_stepOffFrom_84 rfl rfl ci_1 (by decide) (fun _ => rfl) (fun x25 => ?_)
      refine gx_goto X 87 100 dX0_stepOffFrom_87 rfl ?_
      refine gx_sub [2, 3, 4, 5, 0, 6] rfl ?_
      exact hk_100 x11 x25 m23
    refine gx_aload X 56 58 0 dX0_stepOffFrom_56 rfl rfl ?_
    refine gx_dup X 58 59 dX0_stepOffFrom_58 rfl rfl ?_
    refine gx_getI X 59 62 ((34 + x13.toNatClampNeg)) (sX_wl h15) (sX_w h15) rfl fg_X0_154 dX0_stepOffFrom_59 rfl ?_
    refine gx_iconst X 62 63 (1) dX0_stepOffFrom_62 rfl ci_1 ?_
    refine gx_iadd X 63 64 dX0_stepOffFrom_63 rfl ?_
    refine gx_putI X 64 67 ((34 + x13.toNatClampNeg)) (sX_wl h15) (sX_w h15) rfl fp_X0_154 dX0_stepOffFrom_64 rfl (fun m26 => ?_)
    refine gx_goto X 67 100 dX0_stepOffFrom_67 rfl ?_
    refine gx_sub [1, 2, 3, 4, 5, 6] rfl ?_
    exact hk_100 x11 x12 m26
  refine gx_goto X 44 100 dX0_stepOffFrom_44 rfl ?_
  refine gx_sub [1, 2, 3, 4, 5, 6] rfl ?_
  exact hk_100 x11 x12 m14
def fX0_stepOff (a1 : Int32) (μ : Mm) : Aa := mm_cl (fX0_stepOffFrom 0 a1 μ) (fun (x1 : Int32) (m2 : Mm) => mm_cl (fX0_stepOffFrom 1 a1 m2) (fun (x3 : Int32) (m4 : Mm) => mm_lt (x1 + x3) (fun (x5 : Int32) => mm_lt (mm_wr m4 30 5 ((m4 30 5) + x5)) (fun (m6 : Mm) => mm_ck 0 6 (mm_lt (mm_wr m6 30 3 (if ((m6 30 3) + ((m6 32 (0 : Int32).toNatClampNeg) * x5)) < 400 then ((m6 30 3) + ((m6 32 (0 : Int32).toNatClampNeg) * x5)) else 400)) (fun (m7 : Mm) => some (0, m7)))))))
abbrev rX0_stepOff : Room := { frames := 2, cells := 0, slots := 0, locals := 49 }
set_option maxRecDepth 100000 in
set_option maxHeartbeats 8000000 in
theorem tX0_stepOff {l : Launch} {D : va_G} {cA : Nat → ClassId} {adr : Nat → Nat} {tt sK sV : Nat → Nat} {qv : Value} (hJ : mm_J adr NX) (a1 : Int32) (μ : Mm) : mm_Mv l D cA adr sX NX (mm_SX (mm_A adr NX) tt sK sV qv) yX0_stepOff cX0_stepOff 3 none rX0_stepOff [.ref (adr 30), .int a1] μ (fX0_stepOff a1 μ) := by
  refine mm_entryv hJ mm_okX (by decide) (Nat.le_of_ble_eq_true rfl) ⟨rfl, rfl⟩ (fun p e s m below meth c X hr => ?_)
  generalize ([.ref (adr 30), .int a1] : List Value).toArray = args at X ⊢
  refine gx_lv (lv' := [(0, .ref (adr 30)), (1, .int a1)]) rfl ?_
  unfold fX0_stepOff
  refine gx_aload_n X 0 1 0 dX0_stepOff_0 rfl rfl rfl ?_
  refine gx_iconst X 1 2 (0) dX0_stepOff_1 rfl ci_0 ?_
  refine gx_iload_n X 2 3 1 dX0_stepOff_2 rfl rfl rfl ?_
  refine gx_calliV X 3 6 30 (rest := []) (As := [.int 0, .int a1]) (tX0_stepOffFrom hJ 0 a1 μ) (by decide) rfl rfl wc_X0_stepOffFrom wl_X0_144 wi_X0_stepOffFrom ws_X0_stepOffFrom wn_X0 rfl hd_X0_stepOffFrom ⟨Nat.le_of_ble_eq_true rfl, Nat.le_of_ble_eq_true rfl⟩ ⟨rfl, rfl⟩ rfl rfl (Nat.le_of_ble_eq_true rfl) dX0_stepOff_3 rfl (fun x1 m2 => ?_)
  refine gx_aload_n X 6 7 0 dX0_stepOff_6 rfl rfl rfl ?_
  refine gx_iconst X 7 8 (1) dX0_stepOff_7 rfl ci_1 ?_
  refine gx_iload_n X 8 9 1 dX0_stepOff_8 rfl rfl rfl ?_
  refine gx_calliV X 9 12 30 (rest := [.int x1]) (As := [.int 1, .int a1]) (tX0_stepOffFrom hJ 1 a1 m2) (by decide) rfl rfl wc_X0_stepOffFrom wl_X0_144 wi_X0_stepOffFrom ws_X0_stepOffFrom wn_X0 rfl hd_X0_stepOffFrom ⟨Nat.le_of_ble_eq_true rfl, Nat.le_of_ble_eq_true rfl⟩ ⟨rfl, rfl⟩ rfl rfl (Nat.le_of_ble_eq_true rfl) dX0_stepOff_9 rfl (fun x3 m4 => ?_)
  refine gx_iadd X 12 13 dX0_stepOff_12 rfl ?_
  refine gx_istore_n X 13 14 (fun x5 => [(2, .int x5), (0, .ref (adr 30)), (1, .int a1)]) dX0_stepOff_13 rfl rfl (by decide) (fun _ => rfl) (fun x5 => ?_)
  refine gx_aload_n X 14 15 1 dX0_stepOff_14 rfl rfl rfl ?_
  refine gx_dup X 15 16 dX0_stepOff_15 rfl rfl ?_
  refine gx_getI X 16 19 30 (by decide) rfl rfl fg_X0_128 dX0_stepOff_16 rfl ?_
  refine gx_iload_n X 19 20 0 dX0_stepOff_19 rfl rfl rfl ?_
  refine gx_iadd X 20 21 dX0_stepOff_20 rfl ?_
  refine gx_putI X 21 24 30 (by decide) rfl rfl fp_X0_128 dX0_stepOff_21 rfl (fun m6 => ?_)
  refine gx_aload_n X 24 25 1 dX0_stepOff_24 rfl rfl rfl ?_
  refine gx_sipush X 25 28 (400) dX0_stepOff_25 rfl cs_400 ?_
  refine gx_aload_n X 28 29 1 dX0_stepOff_28 rfl rfl rfl ?_
  refine gx_getI X 29 32 30 (by decide) rfl rfl fg_X0_122 dX0_stepOff_29 rfl ?_
  refine gx_aload_n X 32 33 1 dX0_stepOff_32 rfl rfl rfl ?_
  refine gx_getR X 33 36 30 (by decide) rfl rfl fg_X0_17 dX0_stepOff_33 rfl ?_
  refine gx_iconst X 36 37 (0) dX0_stepOff_36 rfl ci_0 ?_
  refine gx_iaload X 37 38 32 (by decide) rfl dX0_stepOff_37 rfl ?_
  refine gx_iload_n X 38 39 0 dX0_stepOff_38 rfl rfl rfl ?_
  refine gx_imul X 39 40 dX0_stepOff_39 rfl ?_
  refine gx_iadd X 40 41 dX0_stepOff_40 rfl ?_
  refine gx_mmin X 41 44 wl_X0_62 wt_Mmin wn_J9 wc_Mmin (by decide) (Nat.le_of_ble_eq_true rfl) dX0_stepOff_41 rfl ?_
  refine gx_putI X 44 47 30 (by decide) rfl rfl fp_X0_122 dX0_stepOff_44 rfl (fun m7 => ?_)
  exact gx_vret X 47 hr dX0_stepOff_47
def fX0_comeByFord_L2 (a1 : Int32) (k_54 : Mm → Aa) (rec_2 : Int32 → Mm → Aa) (x3 : Int32) (m4 : Mm) : Aa := if (m4 30 6) ≤ x3 then (k_54 m4) else (mm_ck x3 10 (mm_lt (fun (m6 : Mm) => mm_lt (x3 + 1) (fun (x7 : Int32) => rec_2 x7 m6)) (fun (k_48 : Mm → Aa) => if (m4 ((34 + x3.toNatClampNeg)) 8) = 3 then (if (m4 ((34 + x3.toNatClampNeg)) 11) = a1 then (mm_lt (mm_wr m4 ((34 + x3.toNatClampNeg)) 15 ((m4 ((34 + x3.toNatClampNeg)) 15) + 1)) (fun (m8 : Mm) => mm_cl (fX5_comeOver ((34 + x3.toNatClampNeg)) a1 m8) (fun (x9 : Int32) (m10 : Mm) => k_48 m10))) else (k_48 m4)) else (k_48 m4))))
def fX0_comeByFord (a1 : Int32) (μ : Mm) : Aa := mm_lt 0 (fun (x1 : Int32) => mm_lt (fun (m2 : Mm) => some (0, m2)) (fun (k_54 : Mm → Aa) => mm_lk (fun (_ : Int32) (_ : Mm) => (none : Aa)) (fX0_comeByFord_L2 a1 k_54) mm_fu x1 μ))
abbrev rX0_comeByFord : Room := { frames := 1, cells := 0, slots := 0, locals := 21 }
set_option maxRecDepth 100000 in
set_option maxHeartbeats 8000000 in
theorem tX0_comeByFord {l : Launch} {D : va_G} {cA : Nat → ClassId} {adr : Nat → Nat} {tt sK sV : Nat → Nat} {qv : Value} (hJ : mm_J adr NX) (a1 : Int32) (μ : Mm) : mm_Mv l D cA adr sX NX (mm_SX (mm_A adr NX) tt sK sV qv) yX0_comeByFord cX0_comeByFord 4 none rX0_comeByFord [.ref (adr 30), .int a1] μ (fX0_comeByFord a1 μ) := by
  refine mm_entryv hJ mm_okX (by decide) (Nat.le_of_ble_eq_true rfl) ⟨rfl, rfl⟩ (fun p e s m below meth c X hr => ?_)
  generalize ([.ref (adr 30), .int a1] : List Value).toArray = args at X ⊢
  refine gx_lv (lv' := [(0, .ref (adr 30)), (1, .int a1)]) rfl ?_
  unfold fX0_comeByFord
  refine gx_iconst X 0 1 (0) dX0_comeByFord_0 rfl ci_0 ?_
  refine gx_istore_n X 1 2 (fun x1 => [(2, .int x1), (0, .ref (adr 30)), (1, .int a1)]) dX0_comeByFord_1 rfl rfl (by decide) (fun _ => rfl) (fun x1 => ?_)
  refine gx_jn (fun (k : Mm → Aa) => ∀ (m2 : Mm), mm_G p l e rX0_comeByFord s m args below meth c 4 D cA adr sX NX (mm_Qv D cA adr sX NX) m2 54 [] [] (k m2)) ?_ (fun k_54 hk_54 => ?_)
  · intro m2
    exact gx_vret X 54 hr dX0_comeByFord_54
  refine gx_sub [1, 2, 0] rfl ?_
  refine mm_lk_ind (fun (rec : Int32 → Mm → Aa) => ∀ (x3 : Int32) (m4 : Mm), mm_G p l e rX0_comeByFord s m args below meth c 4 D cA adr sX NX (mm_Qv D cA adr sX NX) m4 2 [(0, .ref (adr 30)), (1, .int a1), (2, .int x3)] [] (rec x3 m4)) (fun _ _ => gx_none) (fun rec_2 hr_2 x3 m4 => ?_) mm_fu x1 μ
  unfold fX0_comeByFord_L2
  refine gx_iload_n X 2 3 2 dX0_comeByFord_2 rfl rfl rfl ?_
  refine gx_aload_n X 3 4 0 dX0_comeByFord_3 rfl rfl rfl ?_
  refine gx_getI X 4 7 30 (by decide) rfl rfl fg_X0_38 dX0_comeByFord_4 rfl ?_
  refine gx_icmp_ge X 7 54 10 dX0_comeByFord_7 rfl rfl ?_ ?_
  · refine gx_sub [] rfl ?_
    exact hk_54 m4
  refine gx_aload_n X 10 11 0 dX0_comeByFord_10 rfl rfl rfl ?_
  refine gx_getR X 11 14 30 (by decide) rfl rfl fg_X0_11 dX0_comeByFord_11 rfl ?_
  refine gx_iload_n X 14 15 2 dX0_comeByFord_14 rfl rfl rfl ?_
  refine gx_aaload X 15 16 31 (by decide) rfl rfl rfl dX0_comeByFord_15 rfl (fun h5 => ?_)
  refine gx_astore_n X 16 17 [(3, .ref (adr ((34 + x3.toNatClampNeg)))), (0, .ref (adr 30)), (1, .int a1), (2, .int x3)] dX0_comeByFord_16 rfl rfl (by decide) rfl ?_
  refine gx_aload_n X 17 18 0 dX0_comeByFord_17 rfl rfl rfl ?_
  refine gx_getI X 18 21 ((34 + x3.toNatClampNeg)) (sX_wl h5) (sX_w h5) rfl fg_X0_138 dX0_comeByFord_18 rfl ?_
  refine gx_iconst X 21 22 (3) dX0_comeByFord_21 rfl ci_3 ?_
  refine gx_jn (fun (k : Mm → Aa) => ∀ (m6 : Mm), mm_G p l e rX0_comeByFord s m args below meth c 4 D cA adr sX NX (mm_Qv D cA adr sX NX) m6 48 [(0, .ref (adr 30)), (1, .int a1), (2, .int x3)] [] (k m6)) ?_ (fun k_48 hk_48 => ?_)
  · intro m6
    refine gx_iinc X 48 51 2 (1) (fun x7 => [(2, .int x7), (0, .ref (adr 30)), (1, .int a1)]) dX0_comeByFord_48 rfl rfl ci_1 (by decide) (fun _ => rfl) (fun x7 => ?_)
    refine gx_goto X 51 2 dX0_comeByFord_51 rfl ?_
    refine gx_sub [1, 2, 0] rfl ?_
    exact hr_2 x7 m6
  refine gx_icmp_ne X 22 48 25 dX0_comeByFord_22 rfl rfl ?_ ?_
  · refine gx_sub [1, 2, 3] rfl ?_
    exact hk_48 m4
  refine gx_aload_n X 25 26 0 dX0_comeByFord_25 rfl rfl rfl ?_
  refine gx_getI X 26 29 ((34 + x3.toNatClampNeg)) (sX_wl h5) (sX_w h5) rfl fg_X0_169 dX0_comeByFord_26 rfl ?_
  refine gx_iload_n X 29 30 2 dX0_comeByFord_29 rfl rfl rfl ?_
  refine gx_icmp_ne X 30 48 33 dX0_comeByFord_30 rfl rfl ?_ ?_
  · refine gx_sub [1, 2, 3] rfl ?_
    exact hk_48 m4
  refine gx_aload_n X 33 34 0 dX0_comeByFord_33 rfl rfl rfl ?_
  refine gx_dup X 34 35 dX0_comeByFord_34 rfl rfl ?_
  refine gx_getI X 35 38 ((34 + x3.toNatClampNeg)) (sX_wl h5) (sX_w h5) rfl fg_X0_172 dX0_comeByFord_35 rfl ?_
  refine gx_iconst X 38 39 (1) dX0_comeByFord_38 rfl ci_1 ?_
  refine gx_iadd X 39 40 dX0_comeByFord_39 rfl ?_
  refine gx_putI X 40 43 ((34 + x3.toNatClampNeg)) (sX_wl h5) (sX_w h5) rfl fp_X0_172 dX0_comeByFord_40 rfl (fun m8 => ?_)
  refine gx_aload_n X 43 44 0 dX0_comeByFord_43 rfl rfl rfl ?_
  refine gx_iload_n X 44 45 2 dX0_comeByFord_44 rfl rfl rfl ?_
  refine gx_callvV X 45 48 ((34 + x3.toNatClampNeg)) (rest := []) (As := [.int a1]) (tX5_comeOver hJ ((34 + x3.toNatClampNeg)) a1 (sX_wl h5) (sX_w h5) m8) (sX_wl h5) (sX_w h5) rfl wc_X5_comeOver wl_X0_157 wi_X5_comeOver ws_X5_comeOver wn_X5 rfl hd_X5_comeOver ⟨Nat.le_of_ble_eq_true rfl, Nat.le_of_ble_eq_true rfl⟩ ⟨rfl, rfl⟩ rfl rfl (Nat.le_of_ble_eq_true rfl) dX0_comeByFord_45 rfl (fun x9 m10 => ?_)
  refine gx_sub [1, 2, 3] rfl ?_
  exact hk_48 m10
def fX0_takeRope (a1 : Int32) (μ : Mm) : Aa := if (μ 30 2) = ((-1)) then (if (μ 30 4) = 0 then (mm_bo 0 (some (0, μ))) else (mm_lt (mm_wr μ 30 4 ((μ 30 4) - 1)) (fun (m1 : Mm) => mm_bo 1 (some (1, m1))))) else (mm_lt (fun (x2 : Int32) (m3 : Mm) => mm_bo x2 (some (x2, m3))) (fun (k_25 : Int32 → Mm → Aa) => if (((μ 30 2) >>> (a1 &&& 31)) &&& 1) = 1 then (k_25 1 μ) else (k_25 0 μ)))
abbrev rX0_takeRope : Room := { frames := 0, cells := 0, slots := 0, locals := 0 }
set_option maxRecDepth 100000 in
set_option maxHeartbeats 8000000 in
theorem tX0_takeRope {l : Launch} {D : va_G} {cA : Nat → ClassId} {adr : Nat → Nat} {tt sK sV : Nat → Nat} {qv : Value} (hJ : mm_J adr NX) (a1 : Int32) (μ : Mm) : mm_Mi l D cA adr sX NX (mm_SX (mm_A adr NX) tt sK sV qv) yX0_takeRope cX0_takeRope 2 (some .boolean) rX0_takeRope [.ref (adr 30), .int a1] μ (fX0_takeRope a1 μ) := by
  refine mm_entryi hJ mm_okX (by decide) (Nat.le_of_ble_eq_true rfl) ⟨rfl, rfl⟩ (fun p e s m below meth c X hr => ?_)
  generalize ([.ref (adr 30), .int a1] : List Value).toArray = args at X ⊢
  refine gx_lv (lv' := [(0, .ref (adr 30)), (1, .int a1)]) rfl ?_
  unfold fX0_takeRope
  refine gx_aload_n X 0 1 0 dX0_takeRope_0 rfl rfl rfl ?_
  refine gx_getI X 1 4 30 (by decide) rfl rfl fg_X0_35 dX0_takeRope_1 rfl ?_
  refine gx_iconst X 4 5 (-1) dX0_takeRope_4 rfl ci_m1 ?_
  refine gx_icmp_eq X 5 26 8 dX0_takeRope_5 rfl rfl ?_ ?_
  · refine gx_aload_n X 26 27 0 dX0_takeRope_26 rfl rfl rfl ?_
    refine gx_getI X 27 30 30 (by decide) rfl rfl fg_X0_125 dX0_takeRope_27 rfl ?_
    refine gx_if_ne X 30 35 33 dX0_takeRope_30 rfl rfl ?_ ?_
    · refine gx_aload_n X 35 36 0 dX0_takeRope_35 rfl rfl rfl ?_
      refine gx_dup X 36 37 dX0_takeRope_36 rfl rfl ?_
      refine gx_getI X 37 40 30 (by decide) rfl rfl fg_X0_125 dX0_takeRope_37 rfl ?_
      refine gx_iconst X 40 41 (1) dX0_takeRope_40 rfl ci_1 ?_
      refine gx_isub X 41 42 dX0_takeRope_41 rfl ?_
      refine gx_putI X 42 45 30 (by decide) rfl rfl fp_X0_125 dX0_takeRope_42 rfl (fun m1 => ?_)
      refine gx_iconst X 45 46 (1) dX0_takeRope_45 rfl ci_1 ?_
      exact gx_zret X 46 hr dX0_takeRope_46
    refine gx_iconst X 33 34 (0) dX0_takeRope_33 rfl ci_0 ?_
    exact gx_zret X 34 hr dX0_takeRope_34
  refine gx_aload_n X 8 9 0 dX0_takeRope_8 rfl rfl rfl ?_
  refine gx_getI X 9 12 30 (by decide) rfl rfl fg_X0_35 dX0_takeRope_9 rfl ?_
  refine gx_iload_n X 12 13 1 dX0_takeRope_12 rfl rfl rfl ?_
  refine gx_ishr X 13 14 dX0_takeRope_13 rfl ?_
  refine gx_iconst X 14 15 (1) dX0_takeRope_14 rfl ci_1 ?_
  refine gx_iand X 15 16 dX0_takeRope_15 rfl ?_
  refine gx_iconst X 16 17 (1) dX0_takeRope_16 rfl ci_1 ?_
  refine gx_jn (fun (k : Int32 → Mm → Aa) => ∀ (x2 : Int32) (m3 : Mm), mm_G p l e rX0_takeRope s m args below meth c 2 D cA adr sX NX (mm_Qi D cA adr sX NX) m3 25 [] [.int x2] (k x2 m3)) ?_ (fun k_25 hk_25 => ?_)
  · intro x2 m3
    exact gx_zret X 25 hr dX0_takeRope_25
  refine gx_icmp_ne X 17 24 20 dX0_takeRope_17 rfl rfl ?_ ?_
  · refine gx_iconst X 24 25 (0) dX0_takeRope_24 rfl ci_0 ?_
    refine gx_sub [] rfl ?_
    exact hk_25 0 μ
  refine gx_iconst X 20 21 (1) dX0_takeRope_20 rfl ci_1 ?_
  refine gx_goto X 21 25 dX0_takeRope_21 rfl ?_
  refine gx_sub [] rfl ?_
  exact hk_25 1 μ
def fX0_start_L2 (a1 : Int32) (k_94 : Mm → Aa) (rec_2 : Int32 → Mm → Aa) (x3 : Int32) (m4 : Mm) : Aa := if (m4 30 6) ≤ x3 then (k_94 m4) else (mm_ck x3 10 (mm_lt (fun (m6 : Mm) => mm_lt (x3 + 1) (fun (x7 : Int32) => rec_2 x7 m6)) (fun (k_88 : Mm → Aa) => if (m4 ((34 + x3.toNatClampNeg)) 8) = 0 then (if (m4 ((34 + x3.toNatClampNeg)) 11) = a1 then (mm_ck 5 6 (mm_lt (fun (m8 : Mm) => mm_cl (fX0_takeRope x3 m8) (fun (x9 : Int32) (m10 : Mm) => mm_cl (fX5_stepOn ((34 + x3.toNatClampNeg)) x9 m10) (fun (x11 : Int32) (m12 : Mm) => k_88 m12))) (fun (k_79 : Mm → Aa) => if (m4 32 (5 : Int32).toNatClampNeg) ≤ 0 then (k_79 m4) else (mm_cl (fX6_cutUp (m4 30 3) (m4 ((34 + x3.toNatClampNeg)) 2) m4) (fun (x13 : Int32) (m14 : Mm) => mm_ck 5 6 (if x13 ≤ (m14 32 (5 : Int32).toNatClampNeg) then (k_79 m14) else (mm_ck 5 6 (mm_cl (fX5_startByFord ((34 + x3.toNatClampNeg)) (a1 + (m14 32 (5 : Int32).toNatClampNeg)) m14) (fun (x15 : Int32) (m16 : Mm) => k_88 m16))))))))) else (k_88 m4)) else (k_88 m4))))
def fX0_start (a1 : Int32) (μ : Mm) : Aa := mm_lt 0 (fun (x1 : Int32) => mm_lt (fun (m2 : Mm) => some (0, m2)) (fun (k_94 : Mm → Aa) => mm_lk (fun (_ : Int32) (_ : Mm) => (none : Aa)) (fX0_start_L2 a1 k_94) mm_fu x1 μ))
abbrev rX0_start : Room := { frames := 3, cells := 0, slots := 0, locals := 62 }
set_option maxRecDepth 100000 in
set_option maxHeartbeats 8000000 in
theorem tX0_start {l : Launch} {D : va_G} {cA : Nat → ClassId} {adr : Nat → Nat} {tt sK sV : Nat → Nat} {qv : Value} (hJ : mm_J adr NX) (a1 : Int32) (μ : Mm) : mm_Mv l D cA adr sX NX (mm_SX (mm_A adr NX) tt sK sV qv) yX0_start cX0_start 4 none rX0_start [.ref (adr 30), .int a1] μ (fX0_start a1 μ) := by
  refine mm_entryv hJ mm_okX (by decide) (Nat.le_of_ble_eq_true rfl) ⟨rfl, rfl⟩ (fun p e s m below meth c X hr => ?_)
  generalize ([.ref (adr 30), .int a1] : List Value).toArray = args at X ⊢
  refine gx_lv (lv' := [(0, .ref (adr 30)), (1, .int a1)]) rfl ?_
  unfold fX0_start
  refine gx_iconst X 0 1 (0) dX0_start_0 rfl ci_0 ?_
  refine gx_istore_n X 1 2 (fun x1 => [(2, .int x1), (0, .ref (adr 30)), (1, .int a1)]) dX0_start_1 rfl rfl (by decide) (fun _ => rfl) (fun x1 => ?_)
  refine gx_jn (fun (k : Mm → Aa) => ∀ (m2 : Mm), mm_G p l e rX0_start s m args below meth c 4 D cA adr sX NX (mm_Qv D cA adr sX NX) m2 94 [] [] (k m2)) ?_ (fun k_94 hk_94 => ?_)
  · intro m2
    exact gx_vret X 94 hr dX0_start_94
  refine gx_sub [1, 2, 0] rfl ?_
  refine mm_lk_ind (fun (rec : Int32 → Mm → Aa) => ∀ (x3 : Int32) (m4 : Mm), mm_G p l e rX0_start s m args below meth c 4 D cA adr sX NX (mm_Qv D cA adr sX NX) m4 2 [(0, .ref (adr 30)), (1, .int a1), (2, .int x3)] [] (rec x3 m4)) (fun _ _ => gx_none) (fun rec_2 hr_2 x3 m4 => ?_) mm_fu x1 μ
  unfold fX0_start_L2
  refine gx_iload_n X 2 3 2 dX0_start_2 rfl rfl rfl ?_
  refine gx_aload_n X 3 4 0 dX0_start_3 rfl rfl rfl ?_
  refine gx_getI X 4 7 30 (by decide) rfl rfl fg_X0_38 dX0_start_4 rfl ?_
  refine gx_icmp_ge X 7 94 10 dX0_start_7 rfl rfl ?_ ?_
  · refine gx_sub [] rfl ?_
    exact hk_94 m4
  refine gx_aload_n X 10 11 0 dX0_start_10 rfl rfl rfl ?_
  refine gx_getR X 11 14 30 (by decide) rfl rfl fg_X0_11 dX0_start_11 rfl ?_
  refine gx_iload_n X 14 15 2 dX0_start_14 rfl rfl rfl ?_
  refine gx_aaload X 15 16 31 (by decide) rfl rfl rfl dX0_start_15 rfl (fun h5 => ?_)
  refine gx_astore_n X 16 17 [(3, .ref (adr ((34 + x3.toNatClampNeg)))), (0, .ref (adr 30)), (1, .int a1), (2, .int x3)] dX0_start_16 rfl rfl (by decide) rfl ?_
  refine gx_aload_n X 17 18 0 dX0_start_17 rfl rfl rfl ?_
  refine gx_getI X 18 21 ((34 + x3.toNatClampNeg)) (sX_wl h5) (sX_w h5) rfl fg_X0_138 dX0_start_18 rfl ?_
  refine gx_jn (fun (k : Mm → Aa) => ∀ (m6 : Mm), mm_G p l e rX0_start s m args below meth c 4 D cA adr sX NX (mm_Qv D cA adr sX NX) m6 88 [(0, .ref (adr 30)), (1, .int a1), (2, .int x3)] [] (k m6)) ?_ (fun k_88 hk_88 => ?_)
  · intro m6
    refine gx_iinc X 88 91 2 (1) (fun x7 => [(2, .int x7), (0, .ref (adr 30)), (1, .int a1)]) dX0_start_88 rfl rfl ci_1 (by decide) (fun _ => rfl) (fun x7 => ?_)
    refine gx_goto X 91 2 dX0_start_91 rfl ?_
    refine gx_sub [1, 2, 0] rfl ?_
    exact hr_2 x7 m6
  refine gx_if_ne X 21 88 24 dX0_start_21 rfl rfl ?_ ?_
  · refine gx_sub [1, 2, 3] rfl ?_
    exact hk_88 m4
  refine gx_aload_n X 24 25 0 dX0_start_24 rfl rfl rfl ?_
  refine gx_getI X 25 28 ((34 + x3.toNatClampNeg)) (sX_wl h5) (sX_w h5) rfl fg_X0_169 dX0_start_25 rfl ?_
  refine gx_iload_n X 28 29 2 dX0_start_28 rfl rfl rfl ?_
  refine gx_icmp_eq X 29 35 32 dX0_start_29 rfl rfl ?_ ?_
  · refine gx_aload_n X 35 36 1 dX0_start_35 rfl rfl rfl ?_
    refine gx_getR X 36 39 30 (by decide) rfl rfl fg_X0_17 dX0_start_36 rfl ?_
    refine gx_iconst X 39 40 (5) dX0_start_39 rfl ci_5 ?_
    refine gx_iaload X 40 41 32 (by decide) rfl dX0_start_40 rfl ?_
    refine gx_jn (fun (k : Mm → Aa) => ∀ (m8 : Mm), mm_G p l e rX0_start s m args below meth c 4 D cA adr sX NX (mm_Qv D cA adr sX NX) m8 79 [(0, .ref (adr 30)), (1, .int a1), (2, .int x3), (3, .ref (adr ((34 + x3.toNatClampNeg))))] [] (k m8)) ?_ (fun k_79 hk_79 => ?_)
    · intro m8
      refine gx_aload_n X 79 80 3 dX0_start_79 rfl rfl rfl ?_
      refine gx_aload_n X 80 81 0 dX0_start_80 rfl rfl rfl ?_
      refine gx_iload_n X 81 82 2 dX0_start_81 rfl rfl rfl ?_
      refine gx_calliV X 82 85 30 (rest := [.ref (adr ((34 + x3.toNatClampNeg)))]) (As := [.int x3]) (tX0_takeRope hJ x3 m8) (by decide) rfl rfl wc_X0_takeRope wl_X0_181 wi_X0_takeRope ws_X0_takeRope wn_X0 rfl hd_X0_takeRope ⟨Nat.le_of_ble_eq_true rfl, Nat.le_of_ble_eq_true rfl⟩ ⟨rfl, rfl⟩ rfl rfl (Nat.le_of_ble_eq_true rfl) dX0_start_82 rfl (fun x9 m10 => ?_)
      refine gx_callvV X 85 88 ((34 + x3.toNatClampNeg)) (rest := []) (As := [.int x9]) (tX5_stepOn hJ ((34 + x3.toNatClampNeg)) x9 (sX_wl h5) (sX_w h5) m10) (sX_wl h5) (sX_w h5) rfl wc_X5_stepOn wl_X0_184 wi_X5_stepOn ws_X5_stepOn wn_X5 rfl hd_X5_stepOn ⟨Nat.le_of_ble_eq_true rfl, Nat.le_of_ble_eq_true rfl⟩ ⟨rfl, rfl⟩ rfl rfl (Nat.le_of_ble_eq_true rfl) dX0_start_85 rfl (fun x11 m12 => ?_)
      refine gx_sub [0, 1, 2] rfl ?_
      exact hk_88 m12
    refine gx_if_le X 41 79 44 dX0_start_41 rfl rfl ?_ ?_
    · refine gx_sub [1, 2, 3, 0] rfl ?_
      exact hk_79 m4
    refine gx_aload_n X 44 45 1 dX0_start_44 rfl rfl rfl ?_
    refine gx_getI X 45 48 30 (by decide) rfl rfl fg_X0_122 dX0_start_45 rfl ?_
    refine gx_aload_n X 48 49 0 dX0_start_48 rfl rfl rfl ?_
    refine gx_getI X 49 52 ((34 + x3.toNatClampNeg)) (sX_wl h5) (sX_w h5) rfl fg_X0_83 dX0_start_49 rfl ?_
    refine gx_calliN X 52 55 (rest := []) (As := [.int (m4 30 3), .int (m4 ((34 + x3.toNatClampNeg)) 2)]) (tX6_cutUp hJ (m4 30 3) (m4 ((34 + x3.toNatClampNeg)) 2) m4) wc_X6_cutUp (mm_nest X (List.mem_of_getElem? (i := 2) rfl)) wt_X6_cutUp wn_X6 hd_X6_cutUp ⟨Nat.le_of_ble_eq_true rfl, Nat.le_of_ble_eq_true rfl⟩ ⟨rfl, rfl⟩ rfl rfl (Nat.le_of_ble_eq_true rfl) dX0_start_52 rfl (fun x13 m14 => ?_)
    refine gx_aload_n X 55 56 1 dX0_start_55 rfl rfl rfl ?_
    refine gx_getR X 56 59 30 (by decide) rfl rfl fg_X0_17 dX0_start_56 rfl ?_
    refine gx_iconst X 59 60 (5) dX0_start_59 rfl ci_5 ?_
    refine gx_iaload X 60 61 32 (by decide) rfl dX0_start_60 rfl ?_
    refine gx_icmp_le X 61 79 64 dX0_start_61 rfl rfl ?_ ?_
    · refine gx_sub [1, 2, 3, 0] rfl ?_
      exact hk_79 m14
    refine gx_aload_n X 64 65 0 dX0_start_64 rfl rfl rfl ?_
    refine gx_iload_n X 65 66 2 dX0_start_65 rfl rfl rfl ?_
    refine gx_aload_n X 66 67 1 dX0_start_66 rfl rfl rfl ?_
    refine gx_getR X 67 70 30 (by decide) rfl rfl fg_X0_17 dX0_start_67 rfl ?_
    refine gx_iconst X 70 71 (5) dX0_start_70 rfl ci_5 ?_
    refine gx_iaload X 71 72 32 (by decide) rfl dX0_start_71 rfl ?_
    refine gx_iadd X 72 73 dX0_start_72 rfl ?_
    refine gx_callvV X 73 76 ((34 + x3.toNatClampNeg)) (rest := []) (As := [.int (a1 + (m14 32 (5 : Int32).toNatClampNeg))]) (tX5_startByFord hJ ((34 + x3.toNatClampNeg)) (a1 + (m14 32 (5 : Int32).toNatClampNeg)) (sX_wl h5) (sX_w h5) m14) (sX_wl h5) (sX_w h5) rfl wc_X5_startByFord wl_X0_178 wi_X5_startByFord ws_X5_startByFord wn_X5 rfl hd_X5_startByFord ⟨Nat.le_of_ble_eq_true rfl, Nat.le_of_ble_eq_true rfl⟩ ⟨rfl, rfl⟩ rfl rfl (Nat.le_of_ble_eq_true rfl) dX0_start_73 rfl (fun x15 m16 => ?_)
    refine gx_goto X 76 88 dX0_start_76 rfl ?_
    refine gx_sub [1, 2, 3] rfl ?_
    exact hk_88 m16
  refine gx_goto X 32 88 dX0_start_32 rfl ?_
  refine gx_sub [1, 2, 3] rfl ?_
  exact hk_88 m4
def fX0_run_L50 (x19 : Int32) (k_76 : Mm → Aa) (rec_50 : Int32 → Mm → Aa) (x24 : Int32) (m25 : Mm) : Aa := if (m25 30 6) ≤ x24 then (k_76 m25) else (mm_ck x24 10 (mm_cl (fX5_pass ((34 + x24.toNatClampNeg)) x19 m25) (fun (x27 : Int32) (m28 : Mm) => mm_lt (x24 + 1) (fun (x29 : Int32) => rec_50 x29 m28))))
def fX0_run_L6 (a1 : Int32) (k_86 : Mm → Aa) (rec_6 : Int32 → Mm → Aa) (x5 : Int32) (m6 : Mm) : Aa := if a1 < x5 then (k_86 m6) else (mm_cl (fX0_haveNight x5 m6) (fun (x7 : Int32) (m8 : Mm) => mm_cl (fX0_walk m8) (fun (x9 : Int32) (m10 : Mm) => mm_cl (fX0_stepOff x5 m10) (fun (x11 : Int32) (m12 : Mm) => mm_cl (fX0_comeByFord x5 m12) (fun (x13 : Int32) (m14 : Mm) => mm_cl (fX0_start x5 m14) (fun (x15 : Int32) (m16 : Mm) => mm_cl (fX0_quietAfter x5 m16) (fun (x17 : Int32) (m18 : Mm) => mm_lt (if (a1 - x5) < x17 then (a1 - x5) else x17) (fun (x19 : Int32) => mm_lt 0 (fun (x20 : Int32) => mm_lt (fun (m21 : Mm) => mm_lt (x5 + x19) (fun (x22 : Int32) => mm_lt (x22 + 1) (fun (x23 : Int32) => rec_6 x23 m21))) (fun (k_76 : Mm → Aa) => mm_lk (fun (_ : Int32) (_ : Mm) => (none : Aa)) (fX0_run_L50 x19 k_76) mm_fu x20 m18))))))))))
def fX0_run (a1 : Int32) (μ : Mm) : Aa := mm_cl (fX0_begin μ) (fun (x1 : Int32) (m2 : Mm) => mm_lt 0 (fun (x3 : Int32) => mm_lt (fun (m4 : Mm) => some (0, m4)) (fun (k_86 : Mm → Aa) => mm_lk (fun (_ : Int32) (_ : Mm) => (none : Aa)) (fX0_run_L6 a1 k_86) mm_fu x3 m2)))
abbrev rX0_run : Room := { frames := 4, cells := 0, slots := 0, locals := 85 }
set_option maxRecDepth 100000 in
set_option maxHeartbeats 8000000 in
theorem tX0_run {l : Launch} {D : va_G} {cA : Nat → ClassId} {adr : Nat → Nat} {tt sK sV : Nat → Nat} {qv : Value} (hJ : mm_J adr NX) (a1 : Int32) (μ : Mm) : mm_Mv l D cA adr sX NX (mm_SX (mm_A adr NX) tt sK sV qv) yX0_run cX0_run 5 none rX0_run [.ref (adr 30), .int a1] μ (fX0_run a1 μ) := by
  refine mm_entryv hJ mm_okX (by decide) (Nat.le_of_ble_eq_true rfl) ⟨rfl, rfl⟩ (fun p e s m below meth c X hr => ?_)
  generalize ([.ref (adr 30), .int a1] : List Value).toArray = args at X ⊢
  refine gx_lv (lv' := [(0, .ref (adr 30)), (1, .int a1)]) rfl ?_
  unfold fX0_run
  refine gx_aload_n X 0 1 0 dX0_run_0 rfl rfl rfl ?_
  refine gx_callvV X 1 4 30 (rest := []) (As := []) (tX0_begin hJ μ) (by decide) rfl rfl wc_X0_begin wl_X0_97 wi_X0_begin ws_X0_begin wn_X0 rfl hd_X0_begin ⟨Nat.le_of_ble_eq_true rfl, Nat.le_of_ble_eq_true rfl⟩ ⟨rfl, rfl⟩ rfl rfl (Nat.le_of_ble_eq_true rfl) dX0_run_1 rfl (fun x1 m2 => ?_)
  refine gx_iconst X 4 5 (0) dX0_run_4 rfl ci_0 ?_
  refine gx_istore_n X 5 6 (fun x3 => [(2, .int x3), (0, .ref (adr 30)), (1, .int a1)]) dX0_run_5 rfl rfl (by decide) (fun _ => rfl) (fun x3 => ?_)
  refine gx_jn (fun (k : Mm → Aa) => ∀ (m4 : Mm), mm_G p l e rX0_run s m args below meth c 5 D cA adr sX NX (mm_Qv D cA adr sX NX) m4 86 [] [] (k m4)) ?_ (fun k_86 hk_86 => ?_)
  · intro m4
    exact gx_vret X 86 hr dX0_run_86
  refine gx_sub [1, 2, 0] rfl ?_
  refine mm_lk_ind (fun (rec : Int32 → Mm → Aa) => ∀ (x5 : Int32) (m6 : Mm), mm_G p l e rX0_run s m args below meth c 5 D cA adr sX NX (mm_Qv D cA adr sX NX) m6 6 [(0, .ref (adr 30)), (1, .int a1), (2, .int x5)] [] (rec x5 m6)) (fun _ _ => gx_none) (fun rec_6 hr_6 x5 m6 => ?_) mm_fu x3 m2
  unfold fX0_run_L6
  refine gx_iload_n X 6 7 2 dX0_run_6 rfl rfl rfl ?_
  refine gx_iload_n X 7 8 1 dX0_run_7 rfl rfl rfl ?_
  refine gx_icmp_gt X 8 86 11 dX0_run_8 rfl rfl ?_ ?_
  · refine gx_sub [] rfl ?_
    exact hk_86 m6
  refine gx_aload_n X 11 12 0 dX0_run_11 rfl rfl rfl ?_
  refine gx_iload_n X 12 13 2 dX0_run_12 rfl rfl rfl ?_
  refine gx_callvV X 13 16 30 (rest := []) (As := [.int x5]) (tX0_haveNight hJ x5 m6) (by decide) rfl rfl wc_X0_haveNight wl_X0_100 wi_X0_haveNight ws_X0_haveNight wn_X0 rfl hd_X0_haveNight ⟨Nat.le_of_ble_eq_true rfl, Nat.le_of_ble_eq_true rfl⟩ ⟨rfl, rfl⟩ rfl rfl (Nat.le_of_ble_eq_true rfl) dX0_run_13 rfl (fun x7 m8 => ?_)
  refine gx_aload_n X 16 17 0 dX0_run_16 rfl rfl rfl ?_
  refine gx_callvV X 17 20 30 (rest := []) (As := []) (tX0_walk hJ m8) (by decide) rfl rfl wc_X0_walk wl_X0_104 wi_X0_walk ws_X0_walk wn_X0 rfl hd_X0_walk ⟨Nat.le_of_ble_eq_true rfl, Nat.le_of_ble_eq_true rfl⟩ ⟨rfl, rfl⟩ rfl rfl (Nat.le_of_ble_eq_true rfl) dX0_run_17 rfl (fun x9 m10 => ?_)
  refine gx_aload_n X 20 21 0 dX0_run_20 rfl rfl rfl ?_
  refine gx_iload_n X 21 22 2 dX0_run_21 rfl rfl rfl ?_
  refine gx_callvV X 22 25 30 (rest := []) (As := [.int x5]) (tX0_stepOff hJ x5 m10) (by decide) rfl rfl wc_X0_stepOff wl_X0_107 wi_X0_stepOff ws_X0_stepOff wn_X0 rfl hd_X0_stepOff ⟨Nat.le_of_ble_eq_true rfl, Nat.le_of_ble_eq_true rfl⟩ ⟨rfl, rfl⟩ rfl rfl (Nat.le_of_ble_eq_true rfl) dX0_run_22 rfl (fun x11 m12 => ?_)
  refine gx_aload_n X 25 26 0 dX0_run_25 rfl rfl rfl ?_
  refine gx_iload_n X 26 27 2 dX0_run_26 rfl rfl rfl ?_
  refine gx_callvV X 27 30 30 (rest := []) (As := [.int x5]) (tX0_comeByFord hJ x5 m12) (by decide) rfl rfl wc_X0_comeByFord wl_X0_110 wi_X0_comeByFord ws_X0_comeByFord wn_X0 rfl hd_X0_comeByFord ⟨Nat.le_of_ble_eq_true rfl, Nat.le_of_ble_eq_true rfl⟩ ⟨rfl, rfl⟩ rfl rfl (Nat.le_of_ble_eq_true rfl) dX0_run_27 rfl (fun x13 m14 => ?_)
  refine gx_aload_n X 30 31 0 dX0_run_30 rfl rfl rfl ?_
  refine gx_iload_n X 31 32 2 dX0_run_31 rfl rfl rfl ?_
  refine gx_callvV X 32 35 30 (rest := []) (As := [.int x5]) (tX0_start hJ x5 m14) (by decide) rfl rfl wc_X0_start wl_X0_113 wi_X0_start ws_X0_start wn_X0 rfl hd_X0_start ⟨Nat.le_of_ble_eq_true rfl, Nat.le_of_ble_eq_true rfl⟩ ⟨rfl, rfl⟩ rfl rfl (Nat.le_of_ble_eq_true rfl) dX0_run_32 rfl (fun x15 m16 => ?_)
  refine gx_aload_n X 35 36 0 dX0_run_35 rfl rfl rfl ?_
  refine gx_iload_n X 36 37 2 dX0_run_36 rfl rfl rfl ?_
  refine gx_calliV X 37 40 30 (rest := []) (As := [.int x5]) (tX0_quietAfter hJ x5 m16) (by decide) rfl rfl wc_X0_quietAfter wl_X0_116 wi_X0_quietAfter ws_X0_quietAfter wn_X0 rfl hd_X0_quietAfter ⟨Nat.le_of_ble_eq_true rfl, Nat.le_of_ble_eq_true rfl⟩ ⟨rfl, rfl⟩ rfl rfl (Nat.le_of_ble_eq_true rfl) dX0_run_37 rfl (fun x17 m18 => ?_)
  refine gx_iload_n X 40 41 1 dX0_run_40 rfl rfl rfl ?_
  refine gx_iload_n X 41 42 2 dX0_run_41 rfl rfl rfl ?_
  refine gx_isub X 42 43 dX0_run_42 rfl ?_
  refine gx_mmin X 43 46 wl_X0_62 wt_Mmin wn_J9 wc_Mmin (by decide) (Nat.le_of_ble_eq_true rfl) dX0_run_43 rfl ?_
  refine gx_istore_n X 46 47 (fun x19 => [(3, .int x19), (0, .ref (adr 30)), (1, .int a1), (2, .int x5)]) dX0_run_46 rfl rfl (by decide) (fun _ => rfl) (fun x19 => ?_)
  refine gx_iconst X 47 48 (0) dX0_run_47 rfl ci_0 ?_
  refine gx_istore X 48 50 (fun x20 => [(4, .int x20), (3, .int x19), (0, .ref (adr 30)), (1, .int a1), (2, .int x5)]) dX0_run_48 rfl (by decide) (fun _ => rfl) (fun x20 => ?_)
  refine gx_jn (fun (k : Mm → Aa) => ∀ (m21 : Mm), mm_G p l e rX0_run s m args below meth c 5 D cA adr sX NX (mm_Qv D cA adr sX NX) m21 76 [(0, .ref (adr 30)), (1, .int a1), (2, .int x5), (3, .int x19)] [] (k m21)) ?_ (fun k_76 hk_76 => ?_)
  · intro m21
    refine gx_iload_n X 76 77 2 dX0_run_76 rfl rfl rfl ?_
    refine gx_iload_n X 77 78 3 dX0_run_77 rfl rfl rfl ?_
    refine gx_iadd X 78 79 dX0_run_78 rfl ?_
    refine gx_istore_n X 79 80 (fun x22 => [(2, .int x22), (0, .ref (adr 30)), (1, .int a1), (3, .int x19)]) dX0_run_79 rfl rfl (by decide) (fun _ => rfl) (fun x22 => ?_)
    refine gx_iinc X 80 83 0 (1) (fun x23 => [(2, .int x23), (0, .ref (adr 30)), (1, .int a1), (3, .int x19)]) dX0_run_80 rfl rfl ci_1 (by decide) (fun _ => rfl) (fun x23 => ?_)
    refine gx_goto X 83 6 dX0_run_83 rfl ?_
    refine gx_sub [1, 2, 0] rfl ?_
    exact hr_6 x23 m21
  refine gx_sub [2, 3, 4, 1, 0] rfl ?_
  refine mm_lk_ind (fun (rec : Int32 → Mm → Aa) => ∀ (x24 : Int32) (m25 : Mm), mm_G p l e rX0_run s m args below meth c 5 D cA adr sX NX (mm_Qv D cA adr sX NX) m25 50 [(0, .ref (adr 30)), (1, .int a1), (2, .int x5), (3, .int x19), (4, .int x24)] [] (rec x24 m25)) (fun _ _ => gx_none) (fun rec_50 hr_50 x24 m25 => ?_) mm_fu x20 m18
  unfold fX0_run_L50
  refine gx_iload X 50 52 4 dX0_run_50 rfl rfl ?_
  refine gx_aload_n X 52 53 0 dX0_run_52 rfl rfl rfl ?_
  refine gx_getI X 53 56 30 (by decide) rfl rfl fg_X0_38 dX0_run_53 rfl ?_
  refine gx_icmp_ge X 56 76 59 dX0_run_56 rfl rfl ?_ ?_
  · refine gx_sub [0, 1, 2, 3] rfl ?_
    exact hk_76 m25
  refine gx_aload_n X 59 60 0 dX0_run_59 rfl rfl rfl ?_
  refine gx_getR X 60 63 30 (by decide) rfl rfl fg_X0_11 dX0_run_60 rfl ?_
  refine gx_iload X 63 65 4 dX0_run_63 rfl rfl ?_
  refine gx_aaload X 65 66 31 (by decide) rfl rfl rfl dX0_run_65 rfl (fun h26 => ?_)
  refine gx_iload_n X 66 67 3 dX0_run_66 rfl rfl rfl ?_
  refine gx_callvV X 67 70 ((34 + x24.toNatClampNeg)) (rest := []) (As := [.int x19]) (tX5_pass hJ ((34 + x24.toNatClampNeg)) x19 (sX_wl h26) (sX_w h26) m25) (sX_wl h26) (sX_w h26) rfl wc_X5_pass wl_X0_119 wi_X5_pass ws_X5_pass wn_X5 rfl hd_X5_pass ⟨Nat.le_of_ble_eq_true rfl, Nat.le_of_ble_eq_true rfl⟩ ⟨rfl, rfl⟩ rfl rfl (Nat.le_of_ble_eq_true rfl) dX0_run_67 rfl (fun x27 m28 => ?_)
  refine gx_iinc X 70 73 4 (1) (fun x29 => [(4, .int x29), (0, .ref (adr 30)), (1, .int a1), (2, .int x5), (3, .int x19)]) dX0_run_70 rfl rfl ci_1 (by decide) (fun _ => rfl) (fun x29 => ?_)
  refine gx_goto X 73 50 dX0_run_73 rfl ?_
  refine gx_sub [1, 2, 3, 4, 0] rfl ?_
  exact hr_50 x29 m28
def fX0_onBridgeFrom_L4 (a1 : Int32) (k_49 : Int32 → Mm → Aa) (rec_4 : Int32 → Int32 → Mm → Aa) (x5 : Int32) (x6 : Int32) (m7 : Mm) : Aa := if (m7 30 6) ≤ x6 then (k_49 x5 m7) else (mm_ck x6 10 (mm_cl (fX5_isOnBridge ((34 + x6.toNatClampNeg)) m7) (fun (x9 : Int32) (m10 : Mm) => mm_lt (fun (x11 : Int32) (m12 : Mm) => mm_lt (x6 + 1) (fun (x13 : Int32) => rec_4 x11 x13 m12)) (fun (k_43 : Int32 → Mm → Aa) => if x9 = 0 then (k_43 x5 m10) else (mm_ck x6 10 (if (m10 ((34 + x6.toNatClampNeg)) 9) = a1 then (mm_lt (x5 ||| (1 <<< (x6 &&& 31))) (fun (x15 : Int32) => k_43 x15 m10)) else (k_43 x5 m10)))))))
def fX0_onBridgeFrom (a1 : Int32) (μ : Mm) : Aa := mm_lt 0 (fun (x1 : Int32) => mm_lt 0 (fun (x2 : Int32) => mm_lt (fun (x3 : Int32) (m4 : Mm) => some (x3, m4)) (fun (k_49 : Int32 → Mm → Aa) => mm_lk (fun (_ : Int32) (_ : Int32) (_ : Mm) => (none : Aa)) (fX0_onBridgeFrom_L4 a1 k_49) mm_fu x1 x2 μ)))
abbrev rX0_onBridgeFrom : Room := { frames := 1, cells := 0, slots := 0, locals := 20 }
set_option maxRecDepth 100000 in
set_option maxHeartbeats 8000000 in
theorem tX0_onBridgeFrom {l : Launch} {D : va_G} {cA : Nat → ClassId} {adr : Nat → Nat} {tt sK sV : Nat → Nat} {qv : Value} (hJ : mm_J adr NX) (a1 : Int32) (μ : Mm) : mm_Mi l D cA adr sX NX (mm_SX (mm_A adr NX) tt sK sV qv) yX0_onBridgeFrom cX0_onBridgeFrom 4 (some .int) rX0_onBridgeFrom [.ref (adr 30), .int a1] μ (fX0_onBridgeFrom a1 μ) := by
  refine mm_entryi hJ mm_okX (by decide) (Nat.le_of_ble_eq_true rfl) ⟨rfl, rfl⟩ (fun p e s m below meth c X hr => ?_)
  generalize ([.ref (adr 30), .int a1] : List Value).toArray = args at X ⊢
  refine gx_lv (lv' := [(0, .ref (adr 30)), (1, .int a1)]) rfl ?_
  unfold fX0_onBridgeFrom
  refine gx_iconst X 0 1 (0) dX0_onBridgeFrom_0 rfl ci_0 ?_
  refine gx_istore_n X 1 2 (fun x1 => [(2, .int x1), (0, .ref (adr 30)), (1, .int a1)]) dX0_onBridgeFrom_1 rfl rfl (by decide) (fun _ => rfl) (fun x1 => ?_)
  refine gx_iconst X 2 3 (0) dX0_onBridgeFrom_2 rfl ci_0 ?_
  refine gx_istore_n X 3 4 (fun x2 => [(3, .int x2), (2, .int x1), (0, .ref (adr 30)), (1, .int a1)]) dX0_onBridgeFrom_3 rfl rfl (by decide) (fun _ => rfl) (fun x2 => ?_)
  refine gx_jn (fun (k : Int32 → Mm → Aa) => ∀ (x3 : Int32) (m4 : Mm), mm_G p l e rX0_onBridgeFrom s m args below meth c 4 D cA adr sX NX (mm_Qi D cA adr sX NX) m4 49 [(2, .int x3)] [] (k x3 m4)) ?_ (fun k_49 hk_49 => ?_)
  · intro x3 m4
    refine gx_iload_n X 49 50 0 dX0_onBridgeFrom_49 rfl rfl rfl ?_
    exact gx_iret X 50 hr dX0_onBridgeFrom_50
  refine gx_sub [2, 3, 1, 0] rfl ?_
  refine mm_lk_ind (fun (rec : Int32 → Int32 → Mm → Aa) => ∀ (x5 : Int32) (x6 : Int32) (m7 : Mm), mm_G p l e rX0_onBridgeFrom s m args below meth c 4 D cA adr sX NX (mm_Qi D cA adr sX NX) m7 4 [(0, .ref (adr 30)), (1, .int a1), (2, .int x5), (3, .int x6)] [] (rec x5 x6 m7)) (fun _ _ _ => gx_none) (fun rec_4 hr_4 x5 x6 m7 => ?_) mm_fu x1 x2 μ
  unfold fX0_onBridgeFrom_L4
  refine gx_iload_n X 4 5 3 dX0_onBridgeFrom_4 rfl rfl rfl ?_
  refine gx_aload_n X 5 6 0 dX0_onBridgeFrom_5 rfl rfl rfl ?_
  refine gx_getI X 6 9 30 (by decide) rfl rfl fg_X0_38 dX0_onBridgeFrom_6 rfl ?_
  refine gx_icmp_ge X 9 49 12 dX0_onBridgeFrom_9 rfl rfl ?_ ?_
  · refine gx_sub [2] rfl ?_
    exact hk_49 x5 m7
  refine gx_aload_n X 12 13 0 dX0_onBridgeFrom_12 rfl rfl rfl ?_
  refine gx_getR X 13 16 30 (by decide) rfl rfl fg_X0_11 dX0_onBridgeFrom_13 rfl ?_
  refine gx_iload_n X 16 17 3 dX0_onBridgeFrom_16 rfl rfl rfl ?_
  refine gx_aaload X 17 18 31 (by decide) rfl rfl rfl dX0_onBridgeFrom_17 rfl (fun h8 => ?_)
  refine gx_calliV X 18 21 ((34 + x6.toNatClampNeg)) (rest := []) (As := []) (tX5_isOnBridge hJ ((34 + x6.toNatClampNeg)) (sX_wl h8) (sX_w h8) m7) (sX_wl h8) (sX_w h8) rfl wc_X5_isOnBridge wl_X0_188 wi_X5_isOnBridge ws_X5_isOnBridge wn_X5 rfl hd_X5_isOnBridge ⟨Nat.le_of_ble_eq_true rfl, Nat.le_of_ble_eq_true rfl⟩ ⟨rfl, rfl⟩ rfl rfl (Nat.le_of_ble_eq_true rfl) dX0_onBridgeFrom_18 rfl (fun x9 m10 => ?_)
  refine gx_jn (fun (k : Int32 → Mm → Aa) => ∀ (x11 : Int32) (m12 : Mm), mm_G p l e rX0_onBridgeFrom s m args below meth c 4 D cA adr sX NX (mm_Qi D cA adr sX NX) m12 43 [(0, .ref (adr 30)), (1, .int a1), (2, .int x11), (3, .int x6)] [] (k x11 m12)) ?_ (fun k_43 hk_43 => ?_)
  · intro x11 m12
    refine gx_iinc X 43 46 3 (1) (fun x13 => [(3, .int x13), (0, .ref (adr 30)), (1, .int a1), (2, .int x11)]) dX0_onBridgeFrom_43 rfl rfl ci_1 (by decide) (fun _ => rfl) (fun x13 => ?_)
    refine gx_goto X 46 4 dX0_onBridgeFrom_46 rfl ?_
    refine gx_sub [1, 2, 3, 0] rfl ?_
    exact hr_4 x11 x13 m12
  refine gx_if_eq X 21 43 24 dX0_onBridgeFrom_21 rfl rfl ?_ ?_
  · exact hk_43 x5 m10
  refine gx_aload_n X 24 25 0 dX0_onBridgeFrom_24 rfl rfl rfl ?_
  refine gx_getR X 25 28 30 (by decide) rfl rfl fg_X0_11 dX0_onBridgeFrom_25 rfl ?_
  refine gx_iload_n X 28 29 3 dX0_onBridgeFrom_28 rfl rfl rfl ?_
  refine gx_aaload X 29 30 31 (by decide) rfl rfl rfl dX0_onBridgeFrom_29 rfl (fun h14 => ?_)
  refine gx_getI X 30 33 ((34 + x6.toNatClampNeg)) (sX_wl h14) (sX_w h14) rfl fg_X0_147 dX0_onBridgeFrom_30 rfl ?_
  refine gx_iload_n X 33 34 1 dX0_onBridgeFrom_33 rfl rfl rfl ?_
  refine gx_icmp_ne X 34 43 37 dX0_onBridgeFrom_34 rfl rfl ?_ ?_
  · exact hk_43 x5 m10
  refine gx_iload_n X 37 38 2 dX0_onBridgeFrom_37 rfl rfl rfl ?_
  refine gx_iconst X 38 39 (1) dX0_onBridgeFrom_38 rfl ci_1 ?_
  refine gx_iload_n X 39 40 3 dX0_onBridgeFrom_39 rfl rfl rfl ?_
  refine gx_ishl X 40 41 dX0_onBridgeFrom_40 rfl ?_
  refine gx_ior X 41 42 dX0_onBridgeFrom_41 rfl ?_
  refine gx_istore_n X 42 43 (fun x15 => [(2, .int x15), (0, .ref (adr 30)), (1, .int a1), (3, .int x6)]) dX0_onBridgeFrom_42 rfl rfl (by decide) (fun _ => rfl) (fun x15 => ?_)
  refine gx_sub [1, 2, 0, 3] rfl ?_
  exact hk_43 x15 m10
def fX0_whoIs_L4 (a1 : Int32) (k_37 : Int32 → Mm → Aa) (rec_4 : Int32 → Int32 → Mm → Aa) (x5 : Int32) (x6 : Int32) (m7 : Mm) : Aa := if (m7 30 6) ≤ x6 then (k_37 x5 m7) else (mm_ck x6 10 (mm_lt (fun (x9 : Int32) (m10 : Mm) => mm_lt (x6 + 1) (fun (x11 : Int32) => rec_4 x9 x11 m10)) (fun (k_31 : Int32 → Mm → Aa) => if (m7 ((34 + x6.toNatClampNeg)) 8) = a1 then (mm_lt (x5 ||| (1 <<< (x6 &&& 31))) (fun (x12 : Int32) => k_31 x12 m7)) else (k_31 x5 m7))))
def fX0_whoIs (a1 : Int32) (μ : Mm) : Aa := mm_lt 0 (fun (x1 : Int32) => mm_lt 0 (fun (x2 : Int32) => mm_lt (fun (x3 : Int32) (m4 : Mm) => some (x3, m4)) (fun (k_37 : Int32 → Mm → Aa) => mm_lk (fun (_ : Int32) (_ : Int32) (_ : Mm) => (none : Aa)) (fX0_whoIs_L4 a1 k_37) mm_fu x1 x2 μ)))
abbrev rX0_whoIs : Room := { frames := 0, cells := 0, slots := 0, locals := 0 }
set_option maxRecDepth 100000 in
set_option maxHeartbeats 8000000 in
theorem tX0_whoIs {l : Launch} {D : va_G} {cA : Nat → ClassId} {adr : Nat → Nat} {tt sK sV : Nat → Nat} {qv : Value} (hJ : mm_J adr NX) (a1 : Int32) (μ : Mm) : mm_Mi l D cA adr sX NX (mm_SX (mm_A adr NX) tt sK sV qv) yX0_whoIs cX0_whoIs 4 (some .int) rX0_whoIs [.ref (adr 30), .int a1] μ (fX0_whoIs a1 μ) := by
  refine mm_entryi hJ mm_okX (by decide) (Nat.le_of_ble_eq_true rfl) ⟨rfl, rfl⟩ (fun p e s m below meth c X hr => ?_)
  generalize ([.ref (adr 30), .int a1] : List Value).toArray = args at X ⊢
  refine gx_lv (lv' := [(0, .ref (adr 30)), (1, .int a1)]) rfl ?_
  unfold fX0_whoIs
  refine gx_iconst X 0 1 (0) dX0_whoIs_0 rfl ci_0 ?_
  refine gx_istore_n X 1 2 (fun x1 => [(2, .int x1), (0, .ref (adr 30)), (1, .int a1)]) dX0_whoIs_1 rfl rfl (by decide) (fun _ => rfl) (fun x1 => ?_)
  refine gx_iconst X 2 3 (0) dX0_whoIs_2 rfl ci_0 ?_
  refine gx_istore_n X 3 4 (fun x2 => [(3, .int x2), (2, .int x1), (0, .ref (adr 30)), (1, .int a1)]) dX0_whoIs_3 rfl rfl (by decide) (fun _ => rfl) (fun x2 => ?_)
  refine gx_jn (fun (k : Int32 → Mm → Aa) => ∀ (x3 : Int32) (m4 : Mm), mm_G p l e rX0_whoIs s m args below meth c 4 D cA adr sX NX (mm_Qi D cA adr sX NX) m4 37 [(2, .int x3)] [] (k x3 m4)) ?_ (fun k_37 hk_37 => ?_)
  · intro x3 m4
    refine gx_iload_n X 37 38 0 dX0_whoIs_37 rfl rfl rfl ?_
    exact gx_iret X 38 hr dX0_whoIs_38
  refine gx_sub [2, 3, 1, 0] rfl ?_
  refine mm_lk_ind (fun (rec : Int32 → Int32 → Mm → Aa) => ∀ (x5 : Int32) (x6 : Int32) (m7 : Mm), mm_G p l e rX0_whoIs s m args below meth c 4 D cA adr sX NX (mm_Qi D cA adr sX NX) m7 4 [(0, .ref (adr 30)), (1, .int a1), (2, .int x5), (3, .int x6)] [] (rec x5 x6 m7)) (fun _ _ _ => gx_none) (fun rec_4 hr_4 x5 x6 m7 => ?_) mm_fu x1 x2 μ
  unfold fX0_whoIs_L4
  refine gx_iload_n X 4 5 3 dX0_whoIs_4 rfl rfl rfl ?_
  refine gx_aload_n X 5 6 0 dX0_whoIs_5 rfl rfl rfl ?_
  refine gx_getI X 6 9 30 (by decide) rfl rfl fg_X0_38 dX0_whoIs_6 rfl ?_
  refine gx_icmp_ge X 9 37 12 dX0_whoIs_9 rfl rfl ?_ ?_
  · refine gx_sub [2] rfl ?_
    exact hk_37 x5 m7
  refine gx_aload_n X 12 13 0 dX0_whoIs_12 rfl rfl rfl ?_
  refine gx_getR X 13 16 30 (by decide) rfl rfl fg_X0_11 dX0_whoIs_13 rfl ?_
  refine gx_iload_n X 16 17 3 dX0_whoIs_16 rfl rfl rfl ?_
  refine gx_aaload X 17 18 31 (by decide) rfl rfl rfl dX0_whoIs_17 rfl (fun h8 => ?_)
  refine gx_getI X 18 21 ((34 + x6.toNatClampNeg)) (sX_wl h8) (sX_w h8) rfl fg_X0_138 dX0_whoIs_18 rfl ?_
  refine gx_iload_n X 21 22 1 dX0_whoIs_21 rfl rfl rfl ?_
  refine gx_jn (fun (k : Int32 → Mm → Aa) => ∀ (x9 : Int32) (m10 : Mm), mm_G p l e rX0_whoIs s m args below meth c 4 D cA adr sX NX (mm_Qi D cA adr sX NX) m10 31 [(0, .ref (adr 30)), (1, .int a1), (2, .int x9), (3, .int x6)] [] (k x9 m10)) ?_ (fun k_31 hk_31 => ?_)
  · intro x9 m10
    refine gx_iinc X 31 34 3 (1) (fun x11 => [(3, .int x11), (0, .ref (adr 30)), (1, .int a1), (2, .int x9)]) dX0_whoIs_31 rfl rfl ci_1 (by decide) (fun _ => rfl) (fun x11 => ?_)
    refine gx_goto X 34 4 dX0_whoIs_34 rfl ?_
    refine gx_sub [1, 2, 3, 0] rfl ?_
    exact hr_4 x9 x11 m10
  refine gx_icmp_ne X 22 31 25 dX0_whoIs_22 rfl rfl ?_ ?_
  · exact hk_31 x5 m7
  refine gx_iload_n X 25 26 2 dX0_whoIs_25 rfl rfl rfl ?_
  refine gx_iconst X 26 27 (1) dX0_whoIs_26 rfl ci_1 ?_
  refine gx_iload_n X 27 28 3 dX0_whoIs_27 rfl rfl rfl ?_
  refine gx_ishl X 28 29 dX0_whoIs_28 rfl ?_
  refine gx_ior X 29 30 dX0_whoIs_29 rfl ?_
  refine gx_istore_n X 30 31 (fun x12 => [(2, .int x12), (0, .ref (adr 30)), (1, .int a1), (3, .int x6)]) dX0_whoIs_30 rfl rfl (by decide) (fun _ => rfl) (fun x12 => ?_)
  refine gx_sub [1, 2, 0, 3] rfl ?_
  exact hk_31 x12 m7
def fX0_sumOfOver_L4 (k_30 : Int32 → Mm → Aa) (rec_4 : Int32 → Int32 → Mm → Aa) (x5 : Int32) (x6 : Int32) (m7 : Mm) : Aa := if (m7 30 6) ≤ x6 then (k_30 x5 m7) else (mm_ck x6 10 (mm_lt (x5 + (m7 ((34 + x6.toNatClampNeg)) 14)) (fun (x9 : Int32) => mm_lt (x6 + 1) (fun (x10 : Int32) => rec_4 x9 x10 m7))))
def fX0_sumOfOver (μ : Mm) : Aa := mm_lt 0 (fun (x1 : Int32) => mm_lt 0 (fun (x2 : Int32) => mm_lt (fun (x3 : Int32) (m4 : Mm) => some (x3, m4)) (fun (k_30 : Int32 → Mm → Aa) => mm_lk (fun (_ : Int32) (_ : Int32) (_ : Mm) => (none : Aa)) (fX0_sumOfOver_L4 k_30) mm_fu x1 x2 μ)))
abbrev rX0_sumOfOver : Room := { frames := 0, cells := 0, slots := 0, locals := 0 }
set_option maxRecDepth 100000 in
set_option maxHeartbeats 8000000 in
theorem tX0_sumOfOver {l : Launch} {D : va_G} {cA : Nat → ClassId} {adr : Nat → Nat} {tt sK sV : Nat → Nat} {qv : Value} (hJ : mm_J adr NX) (μ : Mm) : mm_Mi l D cA adr sX NX (mm_SX (mm_A adr NX) tt sK sV qv) yX0_sumOfOver cX0_sumOfOver 3 (some .int) rX0_sumOfOver [.ref (adr 30)] μ (fX0_sumOfOver μ) := by
  refine mm_entryi hJ mm_okX (by decide) (Nat.le_of_ble_eq_true rfl) ⟨rfl, rfl⟩ (fun p e s m below meth c X hr => ?_)
  generalize ([.ref (adr 30)] : List Value).toArray = args at X ⊢
  refine gx_lv (lv' := [(0, .ref (adr 30))]) rfl ?_
  unfold fX0_sumOfOver
  refine gx_iconst X 0 1 (0) dX0_sumOfOver_0 rfl ci_0 ?_
  refine gx_istore_n X 1 2 (fun x1 => [(1, .int x1), (0, .ref (adr 30))]) dX0_sumOfOver_1 rfl rfl (by decide) (fun _ => rfl) (fun x1 => ?_)
  refine gx_iconst X 2 3 (0) dX0_sumOfOver_2 rfl ci_0 ?_
  refine gx_istore_n X 3 4 (fun x2 => [(2, .int x2), (1, .int x1), (0, .ref (adr 30))]) dX0_sumOfOver_3 rfl rfl (by decide) (fun _ => rfl) (fun x2 => ?_)
  refine gx_jn (fun (k : Int32 → Mm → Aa) => ∀ (x3 : Int32) (m4 : Mm), mm_G p l e rX0_sumOfOver s m args below meth c 3 D cA adr sX NX (mm_Qi D cA adr sX NX) m4 30 [(1, .int x3)] [] (k x3 m4)) ?_ (fun k_30 hk_30 => ?_)
  · intro x3 m4
    refine gx_iload_n X 30 31 0 dX0_sumOfOver_30 rfl rfl rfl ?_
    exact gx_iret X 31 hr dX0_sumOfOver_31
  refine gx_sub [2, 1, 0] rfl ?_
  refine mm_lk_ind (fun (rec : Int32 → Int32 → Mm → Aa) => ∀ (x5 : Int32) (x6 : Int32) (m7 : Mm), mm_G p l e rX0_sumOfOver s m args below meth c 3 D cA adr sX NX (mm_Qi D cA adr sX NX) m7 4 [(0, .ref (adr 30)), (1, .int x5), (2, .int x6)] [] (rec x5 x6 m7)) (fun _ _ _ => gx_none) (fun rec_4 hr_4 x5 x6 m7 => ?_) mm_fu x1 x2 μ
  unfold fX0_sumOfOver_L4
  refine gx_iload_n X 4 5 2 dX0_sumOfOver_4 rfl rfl rfl ?_
  refine gx_aload_n X 5 6 0 dX0_sumOfOver_5 rfl rfl rfl ?_
  refine gx_getI X 6 9 30 (by decide) rfl rfl fg_X0_38 dX0_sumOfOver_6 rfl ?_
  refine gx_icmp_ge X 9 30 12 dX0_sumOfOver_9 rfl rfl ?_ ?_
  · refine gx_sub [1] rfl ?_
    exact hk_30 x5 m7
  refine gx_iload_n X 12 13 1 dX0_sumOfOver_12 rfl rfl rfl ?_
  refine gx_aload_n X 13 14 0 dX0_sumOfOver_13 rfl rfl rfl ?_
  refine gx_getR X 14 17 30 (by decide) rfl rfl fg_X0_11 dX0_sumOfOver_14 rfl ?_
  refine gx_iload_n X 17 18 2 dX0_sumOfOver_17 rfl rfl rfl ?_
  refine gx_aaload X 18 19 31 (by decide) rfl rfl rfl dX0_sumOfOver_18 rfl (fun h8 => ?_)
  refine gx_getI X 19 22 ((34 + x6.toNatClampNeg)) (sX_wl h8) (sX_w h8) rfl fg_X0_192 dX0_sumOfOver_19 rfl ?_
  refine gx_iadd X 22 23 dX0_sumOfOver_22 rfl ?_
  refine gx_istore_n X 23 24 (fun x9 => [(1, .int x9), (0, .ref (adr 30)), (2, .int x6)]) dX0_sumOfOver_23 rfl rfl (by decide) (fun _ => rfl) (fun x9 => ?_)
  refine gx_iinc X 24 27 2 (1) (fun x10 => [(2, .int x10), (1, .int x9), (0, .ref (adr 30))]) dX0_sumOfOver_24 rfl rfl ci_1 (by decide) (fun _ => rfl) (fun x10 => ?_)
  refine gx_goto X 27 4 dX0_sumOfOver_27 rfl ?_
  refine gx_sub [2, 1, 0] rfl ?_
  exact hr_4 x9 x10 m7
def fX0_lastOver_L4 (k_32 : Int32 → Mm → Aa) (rec_4 : Int32 → Int32 → Mm → Aa) (x5 : Int32) (x6 : Int32) (m7 : Mm) : Aa := if (m7 30 6) ≤ x6 then (k_32 x5 m7) else (mm_ck x6 10 (mm_lt (if x5 < (m7 ((34 + x6.toNatClampNeg)) 14) then (m7 ((34 + x6.toNatClampNeg)) 14) else x5) (fun (x9 : Int32) => mm_lt (x6 + 1) (fun (x10 : Int32) => rec_4 x9 x10 m7))))
def fX0_lastOver (μ : Mm) : Aa := mm_lt 0 (fun (x1 : Int32) => mm_lt 0 (fun (x2 : Int32) => mm_lt (fun (x3 : Int32) (m4 : Mm) => some (x3, m4)) (fun (k_32 : Int32 → Mm → Aa) => mm_lk (fun (_ : Int32) (_ : Int32) (_ : Mm) => (none : Aa)) (fX0_lastOver_L4 k_32) mm_fu x1 x2 μ)))
abbrev rX0_lastOver : Room := { frames := 1, cells := 0, slots := 0, locals := 21 }
set_option maxRecDepth 100000 in
set_option maxHeartbeats 8000000 in
theorem tX0_lastOver {l : Launch} {D : va_G} {cA : Nat → ClassId} {adr : Nat → Nat} {tt sK sV : Nat → Nat} {qv : Value} (hJ : mm_J adr NX) (μ : Mm) : mm_Mi l D cA adr sX NX (mm_SX (mm_A adr NX) tt sK sV qv) yX0_lastOver cX0_lastOver 3 (some .int) rX0_lastOver [.ref (adr 30)] μ (fX0_lastOver μ) := by
  refine mm_entryi hJ mm_okX (by decide) (Nat.le_of_ble_eq_true rfl) ⟨rfl, rfl⟩ (fun p e s m below meth c X hr => ?_)
  generalize ([.ref (adr 30)] : List Value).toArray = args at X ⊢
  refine gx_lv (lv' := [(0, .ref (adr 30))]) rfl ?_
  unfold fX0_lastOver
  refine gx_iconst X 0 1 (0) dX0_lastOver_0 rfl ci_0 ?_
  refine gx_istore_n X 1 2 (fun x1 => [(1, .int x1), (0, .ref (adr 30))]) dX0_lastOver_1 rfl rfl (by decide) (fun _ => rfl) (fun x1 => ?_)
  refine gx_iconst X 2 3 (0) dX0_lastOver_2 rfl ci_0 ?_
  refine gx_istore_n X 3 4 (fun x2 => [(2, .int x2), (1, .int x1), (0, .ref (adr 30))]) dX0_lastOver_3 rfl rfl (by decide) (fun _ => rfl) (fun x2 => ?_)
  refine gx_jn (fun (k : Int32 → Mm → Aa) => ∀ (x3 : Int32) (m4 : Mm), mm_G p l e rX0_lastOver s m args below meth c 3 D cA adr sX NX (mm_Qi D cA adr sX NX) m4 32 [(1, .int x3)] [] (k x3 m4)) ?_ (fun k_32 hk_32 => ?_)
  · intro x3 m4
    refine gx_iload_n X 32 33 0 dX0_lastOver_32 rfl rfl rfl ?_
    exact gx_iret X 33 hr dX0_lastOver_33
  refine gx_sub [2, 1, 0] rfl ?_
  refine mm_lk_ind (fun (rec : Int32 → Int32 → Mm → Aa) => ∀ (x5 : Int32) (x6 : Int32) (m7 : Mm), mm_G p l e rX0_lastOver s m args below meth c 3 D cA adr sX NX (mm_Qi D cA adr sX NX) m7 4 [(0, .ref (adr 30)), (1, .int x5), (2, .int x6)] [] (rec x5 x6 m7)) (fun _ _ _ => gx_none) (fun rec_4 hr_4 x5 x6 m7 => ?_) mm_fu x1 x2 μ
  unfold fX0_lastOver_L4
  refine gx_iload_n X 4 5 2 dX0_lastOver_4 rfl rfl rfl ?_
  refine gx_aload_n X 5 6 0 dX0_lastOver_5 rfl rfl rfl ?_
  refine gx_getI X 6 9 30 (by decide) rfl rfl fg_X0_38 dX0_lastOver_6 rfl ?_
  refine gx_icmp_ge X 9 32 12 dX0_lastOver_9 rfl rfl ?_ ?_
  · refine gx_sub [1] rfl ?_
    exact hk_32 x5 m7
  refine gx_iload_n X 12 13 1 dX0_lastOver_12 rfl rfl rfl ?_
  refine gx_aload_n X 13 14 0 dX0_lastOver_13 rfl rfl rfl ?_
  refine gx_getR X 14 17 30 (by decide) rfl rfl fg_X0_11 dX0_lastOver_14 rfl ?_
  refine gx_iload_n X 17 18 2 dX0_lastOver_17 rfl rfl rfl ?_
  refine gx_aaload X 18 19 31 (by decide) rfl rfl rfl dX0_lastOver_18 rfl (fun h8 => ?_)
  refine gx_getI X 19 22 ((34 + x6.toNatClampNeg)) (sX_wl h8) (sX_w h8) rfl fg_X0_192 dX0_lastOver_19 rfl ?_
  refine gx_mmax X 22 25 wl_X0_135 wt_Mmax wn_J9 wc_Mmax (by decide) (Nat.le_of_ble_eq_true rfl) dX0_lastOver_22 rfl ?_
  refine gx_istore_n X 25 26 (fun x9 => [(1, .int x9), (0, .ref (adr 30)), (2, .int x6)]) dX0_lastOver_25 rfl rfl (by decide) (fun _ => rfl) (fun x9 => ?_)
  refine gx_iinc X 26 29 2 (1) (fun x10 => [(2, .int x10), (1, .int x9), (0, .ref (adr 30))]) dX0_lastOver_26 rfl rfl ci_1 (by decide) (fun _ => rfl) (fun x10 => ?_)
  refine gx_goto X 29 4 dX0_lastOver_29 rfl ?_
  refine gx_sub [2, 1, 0] rfl ?_
  exact hr_4 x9 x10 m7
