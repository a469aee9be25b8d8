def fX0_sumOfFords_L4 (k_30 : Int32 → Mm → Aa) (rec_4 : Int32 → Int32 → Mm → Aa) (x5 : Int32) (x6 : Int32) (m7 : Mm) : Aa := if (m7 30 6) ≤ x6 then (k_30 x5 m7) else (mm_ck x6 10 (mm_lt (x5 + (m7 ((34 + x6.toNatClampNeg)) 15)) (fun (x9 : Int32) => mm_lt (x6 + 1) (fun (x10 : Int32) => rec_4 x9 x10 m7))))
def fX0_sumOfFords (μ : Mm) : Aa := mm_lt 0 (fun (x1 : Int32) => mm_lt 0 (fun (x2 : Int32) => mm_lt (fun (x3 : Int32) (m4 : Mm) => some (x3, m4)) (fun (k_30 : Int32 → Mm → Aa) => mm_lk (fun (_ : Int32) (_ : Int32) (_ : Mm) => (none : Aa)) (fX0_sumOfFords_L4 k_30) mm_fu x1 x2 μ)))
abbrev rX0_sumOfFords : Room := { frames := 0, cells := 0, slots := 0, locals := 0 }
set_option maxRecDepth 100000 in
set_option maxHeartbeats 8000000 in
theorem tX0_sumOfFords {l : Launch} {D : va_G} {cA : Nat → ClassId} {adr : Nat → Nat} {tt sK sV : Nat → Nat} {qv : Value} (hJ : mm_J adr NX) (μ : Mm) : mm_Mi l D cA adr sX NX (mm_SX (mm_A adr NX) tt sK sV qv) yX0_sumOfFords cX0_sumOfFords 3 (some .int) rX0_sumOfFords [.ref (adr 30)] μ (fX0_sumOfFords μ) := by
  refine mm_entryi hJ mm_okX (by decide) (Nat.le_of_ble_eq_true rfl) ⟨rfl, rfl⟩ (fun p e s m below meth c X hr => ?_)
  generalize ([.ref (adr 30)] : List Value).toArray = args at X ⊢
  refine gx_lv (lv' := [(0, .ref (adr 30))]) rfl ?_
  unfold fX0_sumOfFords
  refine gx_iconst X 0 1 (0) dX0_sumOfFords_0 rfl ci_0 ?_
  refine gx_istore_n X 1 2 (fun x1 => [(1, .int x1), (0, .ref (adr 30))]) dX0_sumOfFords_1 rfl rfl (by decide) (fun _ => rfl) (fun x1 => ?_)
  refine gx_iconst X 2 3 (0) dX0_sumOfFords_2 rfl ci_0 ?_
  refine gx_istore_n X 3 4 (fun x2 => [(2, .int x2), (1, .int x1), (0, .ref (adr 30))]) dX0_sumOfFords_3 rfl rfl (by decide) (fun _ => rfl) (fun x2 => ?_)
  refine gx_jn (fun (k : Int32 → Mm → Aa) => ∀ (x3 : Int32) (m4 : Mm), mm_G p l e rX0_sumOfFords s m args below meth c 3 D cA adr sX NX (mm_Qi D cA adr sX NX) m4 30 [(1, .int x3)] [] (k x3 m4)) ?_ (fun k_30 hk_30 => ?_)
  · intro x3 m4
    refine gx_iload_n X 30 31 0 dX0_sumOfFords_30 rfl rfl rfl ?_
    exact gx_iret X 31 hr dX0_sumOfFords_31
  refine gx_sub [2, 1, 0] rfl ?_
  refine mm_lk_ind (fun (rec : Int32 → Int32 → Mm → Aa) => ∀ (x5 : Int32) (x6 : Int32) (m7 : Mm), mm_G p l e rX0_sumOfFords s m args below meth c 3 D cA adr sX NX (mm_Qi D cA adr sX NX) m7 4 [(0, .ref (adr 30)), (1, .int x5), (2, .int x6)] [] (rec x5 x6 m7)) (fun _ _ _ => gx_none) (fun rec_4 hr_4 x5 x6 m7 => ?_) mm_fu x1 x2 μ
  unfold fX0_sumOfFords_L4
  refine gx_iload_n X 4 5 2 dX0_sumOfFords_4 rfl rfl rfl ?_
  refine gx_aload_n X 5 6 0 dX0_sumOfFords_5 rfl rfl rfl ?_
  refine gx_getI X 6 9 30 (by decide) rfl rfl fg_X0_38 dX0_sumOfFords_6 rfl ?_
  refine gx_icmp_ge X 9 30 12 dX0_sumOfFords_9 rfl rfl ?_ ?_
  · refine gx_sub [1] rfl ?_
    exact hk_30 x5 m7
  refine gx_iload_n X 12 13 1 dX0_sumOfFords_12 rfl rfl rfl ?_
  refine gx_aload_n X 13 14 0 dX0_sumOfFords_13 rfl rfl rfl ?_
  refine gx_getR X 14 17 30 (by decide) rfl rfl fg_X0_11 dX0_sumOfFords_14 rfl ?_
  refine gx_iload_n X 17 18 2 dX0_sumOfFords_17 rfl rfl rfl ?_
  refine gx_aaload X 18 19 31 (by decide) rfl rfl rfl dX0_sumOfFords_18 rfl (fun h8 => ?_)
  refine gx_getI X 19 22 ((34 + x6.toNatClampNeg)) (sX_wl h8) (sX_w h8) rfl fg_X0_172 dX0_sumOfFords_19 rfl ?_
  refine gx_iadd X 22 23 dX0_sumOfFords_22 rfl ?_
  refine gx_istore_n X 23 24 (fun x9 => [(1, .int x9), (0, .ref (adr 30)), (2, .int x6)]) dX0_sumOfFords_23 rfl rfl (by decide) (fun _ => rfl) (fun x9 => ?_)
  refine gx_iinc X 24 27 2 (1) (fun x10 => [(2, .int x10), (1, .int x9), (0, .ref (adr 30))]) dX0_sumOfFords_24 rfl rfl ci_1 (by decide) (fun _ => rfl) (fun x10 => ?_)
  refine gx_goto X 27 4 dX0_sumOfFords_27 rfl ?_
  refine gx_sub [2, 1, 0] rfl ?_
  exact hr_4 x9 x10 m7
def fX1_choose_L29 (a1 : Int32) (a2 : Int32) (k_78 : Mm → Aa) (rec_29 : Int32 → Mm → Aa) (x7 : Int32) (m8 : Mm) : Aa := if a2 ≤ x7 then (k_78 m8) else (if 6 ≤ (m8 44 0) then (k_78 m8) else (mm_lt (fun (m9 : Mm) => mm_lt (x7 + 1) (fun (x10 : Int32) => rec_29 x10 m9)) (fun (k_72 : Mm → Aa) => if ((a1 >>> (x7 &&& 31)) &&& 1) = 1 then (mm_ck (m8 44 0) 6 (mm_lt (mm_wr m8 46 (m8 44 0).toNatClampNeg x7) (fun (m11 : Mm) => mm_lt (mm_wr m11 44 0 ((m11 44 0) + 1)) (fun (m12 : Mm) => k_72 m12)))) else (k_72 m8))))
def fX1_choose (a1 : Int32) (a2 : Int32) (μ : Mm) : Aa := mm_lt (fun (m1 : Mm) => mm_bo 0 (some (0, m1))) (fun (k_20 : Mm → Aa) => if a1 ≤ 0 then (k_20 μ) else (if (1 <<< (a2 &&& 31)) ≤ a1 then (k_20 μ) else (mm_cl (fJ6_bitCount a1 μ) (fun (x2 : Int32) (m3 : Mm) => if x2 ≤ 6 then (mm_lt (mm_wr m3 44 0 0) (fun (m4 : Mm) => mm_lt 0 (fun (x5 : Int32) => mm_lt (fun (m6 : Mm) => mm_bo 1 (some (1, m6))) (fun (k_78 : Mm → Aa) => mm_lk (fun (_ : Int32) (_ : Mm) => (none : Aa)) (fX1_choose_L29 a1 a2 k_78) mm_fu x5 m4)))) else (k_20 m3)))))
abbrev rX1_choose : Room := { frames := 1, cells := 0, slots := 0, locals := 20 }
set_option maxRecDepth 100000 in
set_option maxHeartbeats 8000000 in
theorem tX1_choose {l : Launch} {D : va_G} {cA : Nat → ClassId} {adr : Nat → Nat} {tt sK sV : Nat → Nat} {qv : Value} (hJ : mm_J adr NX) (a1 : Int32) (a2 : Int32) (μ : Mm) : mm_Mi l D cA adr sX NX (mm_SX (mm_A adr NX) tt sK sV qv) yX1_choose cX1_choose 4 (some .boolean) rX1_choose [.ref (adr 44), .int a1, .int a2] μ (fX1_choose a1 a2 μ) := by
  refine mm_entryi hJ mm_okX (by decide) (Nat.le_of_ble_eq_true rfl) ⟨rfl, rfl⟩ (fun p e s m below meth c X hr => ?_)
  generalize ([.ref (adr 44), .int a1, .int a2] : List Value).toArray = args at X ⊢
  refine gx_lv (lv' := [(0, .ref (adr 44)), (1, .int a1), (2, .int a2)]) rfl ?_
  unfold fX1_choose
  refine gx_iload_n X 0 1 1 dX1_choose_0 rfl rfl rfl ?_
  refine gx_jn (fun (k : Mm → Aa) => ∀ (m1 : Mm), mm_G p l e rX1_choose s m args below meth c 4 D cA adr sX NX (mm_Qi D cA adr sX NX) m1 20 [] [] (k m1)) ?_ (fun k_20 hk_20 => ?_)
  · intro m1
    refine gx_iconst X 20 21 (0) dX1_choose_20 rfl ci_0 ?_
    exact gx_zret X 21 hr dX1_choose_21
  refine gx_if_le X 1 20 4 dX1_choose_1 rfl rfl ?_ ?_
  · refine gx_sub [] rfl ?_
    exact hk_20 μ
  refine gx_iload_n X 4 5 1 dX1_choose_4 rfl rfl rfl ?_
  refine gx_iconst X 5 6 (1) dX1_choose_5 rfl ci_1 ?_
  refine gx_iload_n X 6 7 2 dX1_choose_6 rfl rfl rfl ?_
  refine gx_ishl X 7 8 dX1_choose_7 rfl ?_
  refine gx_icmp_ge X 8 20 11 dX1_choose_8 rfl rfl ?_ ?_
  · refine gx_sub [] rfl ?_
    exact hk_20 μ
  refine gx_iload_n X 11 12 1 dX1_choose_11 rfl rfl rfl ?_
  refine gx_calliS X 12 15 (rest := []) (As := [.int a1]) (tJ6_bitCount hJ a1 μ) wc_J6_bitCount_0f7a4 wl_X1_21 wt_J6_bitCount_0f7a4 wn_J6 hd_J6_bitCount_0f7a4 ⟨Nat.le_of_ble_eq_true rfl, Nat.le_of_ble_eq_true rfl⟩ ⟨rfl, rfl⟩ rfl rfl (Nat.le_of_ble_eq_true rfl) dX1_choose_12 rfl (fun x2 m3 => ?_)
  refine gx_bipush X 15 17 (6) dX1_choose_15 rfl cb_6 ?_
  refine gx_icmp_le X 17 22 20 dX1_choose_17 rfl rfl ?_ ?_
  · refine gx_aload_n X 22 23 0 dX1_choose_22 rfl rfl rfl ?_
    refine gx_iconst X 23 24 (0) dX1_choose_23 rfl ci_0 ?_
    refine gx_putI X 24 27 44 (by decide) rfl rfl fp_X1_27 dX1_choose_24 rfl (fun m4 => ?_)
    refine gx_iconst X 27 28 (0) dX1_choose_27 rfl ci_0 ?_
    refine gx_istore_n X 28 29 (fun x5 => [(3, .int x5), (0, .ref (adr 44)), (1, .int a1), (2, .int a2)]) dX1_choose_28 rfl rfl (by decide) (fun _ => rfl) (fun x5 => ?_)
    refine gx_jn (fun (k : Mm → Aa) => ∀ (m6 : Mm), mm_G p l e rX1_choose s m args below meth c 4 D cA adr sX NX (mm_Qi D cA adr sX NX) m6 78 [] [] (k m6)) ?_ (fun k_78 hk_78 => ?_)
    · intro m6
      refine gx_iconst X 78 79 (1) dX1_choose_78 rfl ci_1 ?_
      exact gx_zret X 79 hr dX1_choose_79
    refine gx_sub [1, 2, 3, 0] rfl ?_
    refine mm_lk_ind (fun (rec : Int32 → Mm → Aa) => ∀ (x7 : Int32) (m8 : Mm), mm_G p l e rX1_choose s m args below meth c 4 D cA adr sX NX (mm_Qi D cA adr sX NX) m8 29 [(0, .ref (adr 44)), (1, .int a1), (2, .int a2), (3, .int x7)] [] (rec x7 m8)) (fun _ _ => gx_none) (fun rec_29 hr_29 x7 m8 => ?_) mm_fu x5 m4
    unfold fX1_choose_L29
    refine gx_iload_n X 29 30 3 dX1_choose_29 rfl rfl rfl ?_
    refine gx_iload_n X 30 31 2 dX1_choose_30 rfl rfl rfl ?_
    refine gx_icmp_ge X 31 78 34 dX1_choose_31 rfl rfl ?_ ?_
    · refine gx_sub [] rfl ?_
      exact hk_78 m8
    refine gx_aload_n X 34 35 0 dX1_choose_34 rfl rfl rfl ?_
    refine gx_getI X 35 38 44 (by decide) rfl rfl fg_X1_27 dX1_choose_35 rfl ?_
    refine gx_bipush X 38 40 (6) dX1_choose_38 rfl cb_6 ?_
    refine gx_icmp_ge X 40 78 43 dX1_choose_40 rfl rfl ?_ ?_
    · refine gx_sub [] rfl ?_
      exact hk_78 m8
    refine gx_iload_n X 43 44 1 dX1_choose_43 rfl rfl rfl ?_
    refine gx_iload_n X 44 45 3 dX1_choose_44 rfl rfl rfl ?_
    refine gx_ishr X 45 46 dX1_choose_45 rfl ?_
    refine gx_iconst X 46 47 (1) dX1_choose_46 rfl ci_1 ?_
    refine gx_iand X 47 48 dX1_choose_47 rfl ?_
    refine gx_iconst X 48 49 (1) dX1_choose_48 rfl ci_1 ?_
    refine gx_jn (fun (k : Mm → Aa) => ∀ (m9 : Mm), mm_G p l e rX1_choose s m args below meth c 4 D cA adr sX NX (mm_Qi D cA adr sX NX) m9 72 [(0, .ref (adr 44)), (1, .int a1), (2, .int a2), (3, .int x7)] [] (k m9)) ?_ (fun k_72 hk_72 => ?_)
    · intro m9
      refine gx_iinc X 72 75 3 (1) (fun x10 => [(3, .int x10), (0, .ref (adr 44)), (1, .int a1), (2, .int a2)]) dX1_choose_72 rfl rfl ci_1 (by decide) (fun _ => rfl) (fun x10 => ?_)
      refine gx_goto X 75 29 dX1_choose_75 rfl ?_
      refine gx_sub [1, 2, 3, 0] rfl ?_
      exact hr_29 x10 m9
    refine gx_icmp_ne X 49 72 52 dX1_choose_49 rfl rfl ?_ ?_
    · exact hk_72 m8
    refine gx_aload_n X 52 53 0 dX1_choose_52 rfl rfl rfl ?_
    refine gx_getR X 53 56 44 (by decide) rfl rfl fg_X1_15 dX1_choose_53 rfl ?_
    refine gx_aload_n X 56 57 0 dX1_choose_56 rfl rfl rfl ?_
    refine gx_getI X 57 60 44 (by decide) rfl rfl fg_X1_27 dX1_choose_57 rfl ?_
    refine gx_iload_n X 60 61 3 dX1_choose_60 rfl rfl rfl ?_
    refine gx_iastore X 61 62 46 (by decide) rfl dX1_choose_61 rfl (fun m11 => ?_)
    refine gx_aload_n X 62 63 0 dX1_choose_62 rfl rfl rfl ?_
    refine gx_dup X 63 64 dX1_choose_63 rfl rfl ?_
    refine gx_getI X 64 67 44 (by decide) rfl rfl fg_X1_27 dX1_choose_64 rfl ?_
    refine gx_iconst X 67 68 (1) dX1_choose_67 rfl ci_1 ?_
    refine gx_iadd X 68 69 dX1_choose_68 rfl ?_
    refine gx_putI X 69 72 44 (by decide) rfl rfl fp_X1_27 dX1_choose_69 rfl (fun m12 => ?_)
    exact hk_72 m12
  refine gx_sub [] rfl ?_
  exact hk_20 m3
def fX1_found (a1 : Int32) (μ : Mm) : Aa := mm_lt (fun (x1 : Int32) (m2 : Mm) => some (x1, m2)) (fun (k_16 : Int32 → Mm → Aa) => if a1 = ((-1)) then (k_16 (μ 44 2) μ) else (k_16 (μ 44 3) μ))
abbrev rX1_found : Room := { frames := 0, cells := 0, slots := 0, locals := 0 }
set_option maxRecDepth 100000 in
set_option maxHeartbeats 8000000 in
theorem tX1_found {l : Launch} {D : va_G} {cA : Nat → ClassId} {adr : Nat → Nat} {tt sK sV : Nat → Nat} {qv : Value} (hJ : mm_J adr NX) (a1 : Int32) (μ : Mm) : mm_Mi l D cA adr sX NX (mm_SX (mm_A adr NX) tt sK sV qv) yX1_found cX1_found 2 (some .int) rX1_found [.ref (adr 44), .int a1] μ (fX1_found a1 μ) := by
  refine mm_entryi hJ mm_okX (by decide) (Nat.le_of_ble_eq_true rfl) ⟨rfl, rfl⟩ (fun p e s m below meth c X hr => ?_)
  generalize ([.ref (adr 44), .int a1] : List Value).toArray = args at X ⊢
  refine gx_lv (lv' := [(0, .ref (adr 44)), (1, .int a1)]) rfl ?_
  unfold fX1_found
  refine gx_iload_n X 0 1 1 dX1_found_0 rfl rfl rfl ?_
  refine gx_iconst X 1 2 (-1) dX1_found_1 rfl ci_m1 ?_
  refine gx_jn (fun (k : Int32 → Mm → Aa) => ∀ (x1 : Int32) (m2 : Mm), mm_G p l e rX1_found s m args below meth c 2 D cA adr sX NX (mm_Qi D cA adr sX NX) m2 16 [] [.int x1] (k x1 m2)) ?_ (fun k_16 hk_16 => ?_)
  · intro x1 m2
    exact gx_iret X 16 hr dX1_found_16
  refine gx_icmp_ne X 2 12 5 dX1_found_2 rfl rfl ?_ ?_
  · refine gx_aload_n X 12 13 0 dX1_found_12 rfl rfl rfl ?_
    refine gx_getI X 13 16 44 (by decide) rfl rfl fg_X1_69 dX1_found_13 rfl ?_
    refine gx_sub [] rfl ?_
    exact hk_16 (μ 44 3) μ
  refine gx_aload_n X 5 6 0 dX1_found_5 rfl rfl rfl ?_
  refine gx_getI X 6 9 44 (by decide) rfl rfl fg_X1_66 dX1_found_6 rfl ?_
  refine gx_goto X 9 16 dX1_found_9 rfl ?_
  refine gx_sub [] rfl ?_
  exact hk_16 (μ 44 2) μ
def fX1_bestPerson (a1 : Int32) (μ : Mm) : Aa := mm_ck a1 6 (mm_ck (μ 45 a1.toNatClampNeg) 6 (some (μ 46 (μ 45 a1.toNatClampNeg).toNatClampNeg, μ)))
abbrev rX1_bestPerson : Room := { frames := 0, cells := 0, slots := 0, locals := 0 }
set_option maxRecDepth 100000 in
set_option maxHeartbeats 8000000 in
theorem tX1_bestPerson {l : Launch} {D : va_G} {cA : Nat → ClassId} {adr : Nat → Nat} {tt sK sV : Nat → Nat} {qv : Value} (hJ : mm_J adr NX) (a1 : Int32) (μ : Mm) : mm_Mi l D cA adr sX NX (mm_SX (mm_A adr NX) tt sK sV qv) yX1_bestPerson cX1_bestPerson 2 (some .int) rX1_bestPerson [.ref (adr 44), .int a1] μ (fX1_bestPerson a1 μ) := by
  refine mm_entryi hJ mm_okX (by decide) (Nat.le_of_ble_eq_true rfl) ⟨rfl, rfl⟩ (fun p e s m below meth c X hr => ?_)
  generalize ([.ref (adr 44), .int a1] : List Value).toArray = args at X ⊢
  refine gx_lv (lv' := [(0, .ref (adr 44)), (1, .int a1)]) rfl ?_
  unfold fX1_bestPerson
  refine gx_aload_n X 0 1 0 dX1_bestPerson_0 rfl rfl rfl ?_
  refine gx_getR X 1 4 44 (by decide) rfl rfl fg_X1_15 dX1_bestPerson_1 rfl ?_
  refine gx_aload_n X 4 5 0 dX1_bestPerson_4 rfl rfl rfl ?_
  refine gx_getR X 5 8 44 (by decide) rfl rfl fg_X1_9 dX1_bestPerson_5 rfl ?_
  refine gx_iload_n X 8 9 1 dX1_bestPerson_8 rfl rfl rfl ?_
  refine gx_iaload X 9 10 45 (by decide) rfl dX1_bestPerson_9 rfl ?_
  refine gx_iaload X 10 11 46 (by decide) rfl dX1_bestPerson_10 rfl ?_
  exact gx_iret X 11 hr dX1_bestPerson_11
def fX1_companyOf_L4 (a1 : Int32) (k_39 : Int32 → Mm → Aa) (rec_4 : Int32 → Int32 → Mm → Aa) (x5 : Int32) (x6 : Int32) (m7 : Mm) : Aa := if (m7 44 0) ≤ x6 then (k_39 x5 m7) else (mm_ck x6 6 (mm_ck a1 6 (mm_lt (fun (x8 : Int32) (m9 : Mm) => mm_lt (x6 + 1) (fun (x10 : Int32) => rec_4 x8 x10 m9)) (fun (k_33 : Int32 → Mm → Aa) => if (m7 47 x6.toNatClampNeg) = (m7 47 a1.toNatClampNeg) then (mm_lt (x5 ||| (1 <<< (x6 &&& 31))) (fun (x11 : Int32) => k_33 x11 m7)) else (k_33 x5 m7)))))
def fX1_companyOf (a1 : Int32) (μ : Mm) : Aa := mm_lt 0 (fun (x1 : Int32) => mm_lt 0 (fun (x2 : Int32) => mm_lt (fun (x3 : Int32) (m4 : Mm) => some (x3, m4)) (fun (k_39 : Int32 → Mm → Aa) => mm_lk (fun (_ : Int32) (_ : Int32) (_ : Mm) => (none : Aa)) (fX1_companyOf_L4 a1 k_39) mm_fu x1 x2 μ)))
abbrev rX1_companyOf : Room := { frames := 0, cells := 0, slots := 0, locals := 0 }
set_option maxRecDepth 100000 in
set_option maxHeartbeats 8000000 in
theorem tX1_companyOf {l : Launch} {D : va_G} {cA : Nat → ClassId} {adr : Nat → Nat} {tt sK sV : Nat → Nat} {qv : Value} (hJ : mm_J adr NX) (a1 : Int32) (μ : Mm) : mm_Mi l D cA adr sX NX (mm_SX (mm_A adr NX) tt sK sV qv) yX1_companyOf cX1_companyOf 4 (some .int) rX1_companyOf [.ref (adr 44), .int a1] μ (fX1_companyOf a1 μ) := by
  refine mm_entryi hJ mm_okX (by decide) (Nat.le_of_ble_eq_true rfl) ⟨rfl, rfl⟩ (fun p e s m below meth c X hr => ?_)
  generalize ([.ref (adr 44), .int a1] : List Value).toArray = args at X ⊢
  refine gx_lv (lv' := [(0, .ref (adr 44)), (1, .int a1)]) rfl ?_
  unfold fX1_companyOf
  refine gx_iconst X 0 1 (0) dX1_companyOf_0 rfl ci_0 ?_
  refine gx_istore_n X 1 2 (fun x1 => [(2, .int x1), (0, .ref (adr 44)), (1, .int a1)]) dX1_companyOf_1 rfl rfl (by decide) (fun _ => rfl) (fun x1 => ?_)
  refine gx_iconst X 2 3 (0) dX1_companyOf_2 rfl ci_0 ?_
  refine gx_istore_n X 3 4 (fun x2 => [(3, .int x2), (2, .int x1), (0, .ref (adr 44)), (1, .int a1)]) dX1_companyOf_3 rfl rfl (by decide) (fun _ => rfl) (fun x2 => ?_)
  refine gx_jn (fun (k : Int32 → Mm → Aa) => ∀ (x3 : Int32) (m4 : Mm), mm_G p l e rX1_companyOf s m args below meth c 4 D cA adr sX NX (mm_Qi D cA adr sX NX) m4 39 [(2, .int x3)] [] (k x3 m4)) ?_ (fun k_39 hk_39 => ?_)
  · intro x3 m4
    refine gx_iload_n X 39 40 0 dX1_companyOf_39 rfl rfl rfl ?_
    exact gx_iret X 40 hr dX1_companyOf_40
  refine gx_sub [2, 3, 1, 0] rfl ?_
  refine mm_lk_ind (fun (rec : Int32 → Int32 → Mm → Aa) => ∀ (x5 : Int32) (x6 : Int32) (m7 : Mm), mm_G p l e rX1_companyOf s m args below meth c 4 D cA adr sX NX (mm_Qi D cA adr sX NX) m7 4 [(0, .ref (adr 44)), (1, .int a1), (2, .int x5), (3, .int x6)] [] (rec x5 x6 m7)) (fun _ _ _ => gx_none) (fun rec_4 hr_4 x5 x6 m7 => ?_) mm_fu x1 x2 μ
  unfold fX1_companyOf_L4
  refine gx_iload_n X 4 5 3 dX1_companyOf_4 rfl rfl rfl ?_
  refine gx_aload_n X 5 6 0 dX1_companyOf_5 rfl rfl rfl ?_
  refine gx_getI X 6 9 44 (by decide) rfl rfl fg_X1_27 dX1_companyOf_6 rfl ?_
  refine gx_icmp_ge X 9 39 12 dX1_companyOf_9 rfl rfl ?_ ?_
  · refine gx_sub [2] rfl ?_
    exact hk_39 x5 m7
  refine gx_aload_n X 12 13 0 dX1_companyOf_12 rfl rfl rfl ?_
  refine gx_getR X 13 16 44 (by decide) rfl rfl fg_X1_18 dX1_companyOf_13 rfl ?_
  refine gx_iload_n X 16 17 3 dX1_companyOf_16 rfl rfl rfl ?_
  refine gx_iaload X 17 18 47 (by decide) rfl dX1_companyOf_17 rfl ?_
  refine gx_aload_n X 18 19 0 dX1_companyOf_18 rfl rfl rfl ?_
  refine gx_getR X 19 22 44 (by decide) rfl rfl fg_X1_18 dX1_companyOf_19 rfl ?_
  refine gx_iload_n X 22 23 1 dX1_companyOf_22 rfl rfl rfl ?_
  refine gx_iaload X 23 24 47 (by decide) rfl dX1_companyOf_23 rfl ?_
  refine gx_jn (fun (k : Int32 → Mm → Aa) => ∀ (x8 : Int32) (m9 : Mm), mm_G p l e rX1_companyOf s m args below meth c 4 D cA adr sX NX (mm_Qi D cA adr sX NX) m9 33 [(0, .ref (adr 44)), (1, .int a1), (2, .int x8), (3, .int x6)] [] (k x8 m9)) ?_ (fun k_33 hk_33 => ?_)
  · intro x8 m9
    refine gx_iinc X 33 36 3 (1) (fun x10 => [(3, .int x10), (0, .ref (adr 44)), (1, .int a1), (2, .int x8)]) dX1_companyOf_33 rfl rfl ci_1 (by decide) (fun _ => rfl) (fun x10 => ?_)
    refine gx_goto X 36 4 dX1_companyOf_36 rfl ?_
    refine gx_sub [1, 2, 3, 0] rfl ?_
    exact hr_4 x8 x10 m9
  refine gx_icmp_ne X 24 33 27 dX1_companyOf_24 rfl rfl ?_ ?_
  · exact hk_33 x5 m7
  refine gx_iload_n X 27 28 2 dX1_companyOf_27 rfl rfl rfl ?_
  refine gx_iconst X 28 29 (1) dX1_companyOf_28 rfl ci_1 ?_
  refine gx_iload_n X 29 30 3 dX1_companyOf_29 rfl rfl rfl ?_
  refine gx_ishl X 30 31 dX1_companyOf_30 rfl ?_
  refine gx_ior X 31 32 dX1_companyOf_31 rfl ?_
  refine gx_istore_n X 32 33 (fun x11 => [(2, .int x11), (0, .ref (adr 44)), (1, .int a1), (3, .int x6)]) dX1_companyOf_32 rfl rfl (by decide) (fun _ => rfl) (fun x11 => ?_)
  refine gx_sub [1, 2, 0, 3] rfl ?_
  exact hk_33 x11 m7
def fX1_mostAhead_L4 (a1 : Int32) (k_26 : Int32 → Mm → Aa) (rec_4 : Int32 → Int32 → Mm → Aa) (x5 : Int32) (x6 : Int32) (m7 : Mm) : Aa := if a1 ≤ x6 then (k_26 x5 m7) else (mm_ck x6 6 (mm_lt (if x5 < (m7 47 x6.toNatClampNeg) then (m7 47 x6.toNatClampNeg) else x5) (fun (x8 : Int32) => mm_lt (x6 + 1) (fun (x9 : Int32) => rec_4 x8 x9 m7))))
def fX1_mostAhead (a1 : Int32) (μ : Mm) : Aa := mm_lt 0 (fun (x1 : Int32) => mm_lt 0 (fun (x2 : Int32) => mm_lt (fun (x3 : Int32) (m4 : Mm) => some (x3, m4)) (fun (k_26 : Int32 → Mm → Aa) => mm_lk (fun (_ : Int32) (_ : Int32) (_ : Mm) => (none : Aa)) (fX1_mostAhead_L4 a1 k_26) mm_fu x1 x2 μ)))
abbrev rX1_mostAhead : Room := { frames := 1, cells := 0, slots := 0, locals := 21 }
set_option maxRecDepth 100000 in
set_option maxHeartbeats 8000000 in
theorem tX1_mostAhead {l : Launch} {D : va_G} {cA : Nat → ClassId} {adr : Nat → Nat} {tt sK sV : Nat → Nat} {qv : Value} (hJ : mm_J adr NX) (a1 : Int32) (μ : Mm) : mm_Mi l D cA adr sX NX (mm_SX (mm_A adr NX) tt sK sV qv) yX1_mostAhead cX1_mostAhead 4 (some .int) rX1_mostAhead [.ref (adr 44), .int a1] μ (fX1_mostAhead a1 μ) := by
  refine mm_entryi hJ mm_okX (by decide) (Nat.le_of_ble_eq_true rfl) ⟨rfl, rfl⟩ (fun p e s m below meth c X hr => ?_)
  generalize ([.ref (adr 44), .int a1] : List Value).toArray = args at X ⊢
  refine gx_lv (lv' := [(0, .ref (adr 44)), (1, .int a1)]) rfl ?_
  unfold fX1_mostAhead
  refine gx_iconst X 0 1 (0) dX1_mostAhead_0 rfl ci_0 ?_
  refine gx_istore_n X 1 2 (fun x1 => [(2, .int x1), (0, .ref (adr 44)), (1, .int a1)]) dX1_mostAhead_1 rfl rfl (by decide) (fun _ => rfl) (fun x1 => ?_)
  refine gx_iconst X 2 3 (0) dX1_mostAhead_2 rfl ci_0 ?_
  refine gx_istore_n X 3 4 (fun x2 => [(3, .int x2), (2, .int x1), (0, .ref (adr 44)), (1, .int a1)]) dX1_mostAhead_3 rfl rfl (by decide) (fun _ => rfl) (fun x2 => ?_)
  refine gx_jn (fun (k : Int32 → Mm → Aa) => ∀ (x3 : Int32) (m4 : Mm), mm_G p l e rX1_mostAhead s m args below meth c 4 D cA adr sX NX (mm_Qi D cA adr sX NX) m4 26 [(2, .int x3)] [] (k x3 m4)) ?_ (fun k_26 hk_26 => ?_)
  · intro x3 m4
    refine gx_iload_n X 26 27 0 dX1_mostAhead_26 rfl rfl rfl ?_
    exact gx_iret X 27 hr dX1_mostAhead_27
  refine gx_sub [2, 3, 1, 0] rfl ?_
  refine mm_lk_ind (fun (rec : Int32 → Int32 → Mm → Aa) => ∀ (x5 : Int32) (x6 : Int32) (m7 : Mm), mm_G p l e rX1_mostAhead s m args below meth c 4 D cA adr sX NX (mm_Qi D cA adr sX NX) m7 4 [(0, .ref (adr 44)), (1, .int a1), (2, .int x5), (3, .int x6)] [] (rec x5 x6 m7)) (fun _ _ _ => gx_none) (fun rec_4 hr_4 x5 x6 m7 => ?_) mm_fu x1 x2 μ
  unfold fX1_mostAhead_L4
  refine gx_iload_n X 4 5 3 dX1_mostAhead_4 rfl rfl rfl ?_
  refine gx_iload_n X 5 6 1 dX1_mostAhead_5 rfl rfl rfl ?_
  refine gx_icmp_ge X 6 26 9 dX1_mostAhead_6 rfl rfl ?_ ?_
  · refine gx_sub [2] rfl ?_
    exact hk_26 x5 m7
  refine gx_iload_n X 9 10 2 dX1_mostAhead_9 rfl rfl rfl ?_
  refine gx_aload_n X 10 11 0 dX1_mostAhead_10 rfl rfl rfl ?_
  refine gx_getR X 11 14 44 (by decide) rfl rfl fg_X1_18 dX1_mostAhead_11 rfl ?_
  refine gx_iload_n X 14 15 3 dX1_mostAhead_14 rfl rfl rfl ?_
  refine gx_iaload X 15 16 47 (by decide) rfl dX1_mostAhead_15 rfl ?_
  refine gx_mmax X 16 19 wl_X1_97 wt_Mmax wn_J9 wc_Mmax (by decide) (Nat.le_of_ble_eq_true rfl) dX1_mostAhead_16 rfl ?_
  refine gx_istore_n X 19 20 (fun x8 => [(2, .int x8), (0, .ref (adr 44)), (1, .int a1), (3, .int x6)]) dX1_mostAhead_19 rfl rfl (by decide) (fun _ => rfl) (fun x8 => ?_)
  refine gx_iinc X 20 23 3 (1) (fun x9 => [(3, .int x9), (2, .int x8), (0, .ref (adr 44)), (1, .int a1)]) dX1_mostAhead_20 rfl rfl ci_1 (by decide) (fun _ => rfl) (fun x9 => ?_)
  refine gx_goto X 23 4 dX1_mostAhead_23 rfl ?_
  refine gx_sub [2, 3, 1, 0] rfl ?_
  exact hr_4 x8 x9 m7
def fX1_makeNextCompanies_L39 (k_60 : Mm → Aa) (rec_39 : Int32 → Mm → Aa) (x8 : Int32) (m9 : Mm) : Aa := if (m9 44 0) ≤ x8 then (k_60 m9) else (mm_ck x8 6 (mm_lt (mm_wr m9 47 x8.toNatClampNeg 0) (fun (m10 : Mm) => mm_lt (x8 + 1) (fun (x11 : Int32) => rec_39 x11 m10))))
def fX1_makeNextCompanies_L7 (k_25 : Int32 → Mm → Aa) (k_68 : Mm → Aa) (rec_7 : Int32 → Mm → Aa) (x12 : Int32) (m13 : Mm) : Aa := if x12 ≤ 0 then (k_68 m13) else (mm_ck x12 6 (mm_cl (fX1_mostAhead x12 m13) (fun (x14 : Int32) (m15 : Mm) => if x14 < (m13 47 x12.toNatClampNeg) then (mm_lt (x12 + (-1)) (fun (x16 : Int32) => rec_7 x16 m15)) else (k_25 x12 m15))))
def fX1_makeNextCompanies (μ : Mm) : Aa := mm_lt ((μ 44 0) - 1) (fun (x1 : Int32) => mm_lt (fun (m2 : Mm) => mm_bo 0 (some (0, m2))) (fun (k_68 : Mm → Aa) => mm_lt (fun (x3 : Int32) (m4 : Mm) => mm_ck x3 6 (mm_ck x3 6 (mm_lt (mm_wr m4 47 x3.toNatClampNeg ((m4 47 x3.toNatClampNeg) + 1)) (fun (m5 : Mm) => mm_lt (x3 + 1) (fun (x6 : Int32) => mm_lt (fun (m7 : Mm) => mm_bo 1 (some (1, m7))) (fun (k_60 : Mm → Aa) => mm_lk (fun (_ : Int32) (_ : Mm) => (none : Aa)) (fX1_makeNextCompanies_L39 k_60) mm_fu x6 m5)))))) (fun (k_25 : Int32 → Mm → Aa) => mm_lk (fun (_ : Int32) (_ : Mm) => (none : Aa)) (fX1_makeNextCompanies_L7 k_25 k_68) mm_fu x1 μ)))
abbrev rX1_makeNextCompanies : Room := { frames := 2, cells := 0, slots := 0, locals := 44 }
set_option maxRecDepth 100000 in
set_option maxHeartbeats 8000000 in
theorem tX1_makeNextCompanies {l : Launch} {D : va_G} {cA : Nat → ClassId} {adr : Nat → Nat} {tt sK sV : Nat → Nat} {qv : Value} (hJ : mm_J adr NX) (μ : Mm) : mm_Mi l D cA adr sX NX (mm_SX (mm_A adr NX) tt sK sV qv) yX1_makeNextCompanies cX1_makeNextCompanies 3 (some .boolean) rX1_makeNextCompanies [.ref (adr 44)] μ (fX1_makeNextCompanies μ) := by
  refine mm_entryi hJ mm_okX (by decide) (Nat.le_of_ble_eq_true rfl) ⟨rfl, rfl⟩ (fun p e s m below meth c X hr => ?_)
  generalize ([.ref (adr 44)] : List Value).toArray = args at X ⊢
  refine gx_lv (lv' := [(0, .ref (adr 44))]) rfl ?_
  unfold fX1_makeNextCompanies
  refine gx_aload_n X 0 1 0 dX1_makeNextCompanies_0 rfl rfl rfl ?_
  refine gx_getI X 1 4 44 (by decide) rfl rfl fg_X1_27 dX1_makeNextCompanies_1 rfl ?_
  refine gx_iconst X 4 5 (1) dX1_makeNextCompanies_4 rfl ci_1 ?_
  refine gx_isub X 5 6 dX1_makeNextCompanies_5 rfl ?_
  refine gx_istore_n X 6 7 (fun x1 => [(1, .int x1), (0, .ref (adr 44))]) dX1_makeNextCompanies_6 rfl rfl (by decide) (fun _ => rfl) (fun x1 => ?_)
  refine gx_jn (fun (k : Mm → Aa) => ∀ (m2 : Mm), mm_G p l e rX1_makeNextCompanies s m args below meth c 3 D cA adr sX NX (mm_Qi D cA adr sX NX) m2 68 [] [] (k m2)) ?_ (fun k_68 hk_68 => ?_)
  · intro m2
    refine gx_iconst X 68 69 (0) dX1_makeNextCompanies_68 rfl ci_0 ?_
    exact gx_zret X 69 hr dX1_makeNextCompanies_69
  refine gx_jn (fun (k : Int32 → Mm → Aa) => ∀ (x3 : Int32) (m4 : Mm), mm_G p l e rX1_makeNextCompanies s m args below meth c 3 D cA adr sX NX (mm_Qi D cA adr sX NX) m4 25 [(0, .ref (adr 44)), (1, .int x3)] [] (k x3 m4)) ?_ (fun k_25 hk_25 => ?_)
  · intro x3 m4
    refine gx_aload_n X 25 26 0 dX1_makeNextCompanies_25 rfl rfl rfl ?_
    refine gx_getR X 26 29 44 (by decide) rfl rfl fg_X1_18 dX1_makeNextCompanies_26 rfl ?_
    refine gx_iload_n X 29 30 1 dX1_makeNextCompanies_29 rfl rfl rfl ?_
    refine gx_dup2 X 30 31 dX1_makeNextCompanies_30 rfl rfl rfl ?_
    refine gx_iaload X 31 32 47 (by decide) rfl dX1_makeNextCompanies_31 rfl ?_
    refine gx_iconst X 32 33 (1) dX1_makeNextCompanies_32 rfl ci_1 ?_
    refine gx_iadd X 33 34 dX1_makeNextCompanies_33 rfl ?_
    refine gx_iastore X 34 35 47 (by decide) rfl dX1_makeNextCompanies_34 rfl (fun m5 => ?_)
    refine gx_iload_n X 35 36 1 dX1_makeNextCompanies_35 rfl rfl rfl ?_
    refine gx_iconst X 36 37 (1) dX1_makeNextCompanies_36 rfl ci_1 ?_
    refine gx_iadd X 37 38 dX1_makeNextCompanies_37 rfl ?_
    refine gx_istore_n X 38 39 (fun x6 => [(2, .int x6), (0, .ref (adr 44)), (1, .int x3)]) dX1_makeNextCompanies_38 rfl rfl (by decide) (fun _ => rfl) (fun x6 => ?_)
    refine gx_jn (fun (k : Mm → Aa) => ∀ (m7 : Mm), mm_G p l e rX1_makeNextCompanies s m args below meth c 3 D cA adr sX NX (mm_Qi D cA adr sX NX) m7 60 [] [] (k m7)) ?_ (fun k_60 hk_60 => ?_)
    · intro m7
      refine gx_iconst X 60 61 (1) dX1_makeNextCompanies_60 rfl ci_1 ?_
      exact gx_zret X 61 hr dX1_makeNextCompanies_61
    refine gx_sub [1, 0] rfl ?_
    refine mm_lk_ind (fun (rec : Int32 → Mm → Aa) => ∀ (x8 : Int32) (m9 : Mm), mm_G p l e rX1_makeNextCompanies s m args below meth c 3 D cA adr sX NX (mm_Qi D cA adr sX NX) m9 39 [(0, .ref (adr 44)), (2, .int x8)] [] (rec x8 m9)) (fun _ _ => gx_none) (fun rec_39 hr_39 x8 m9 => ?_) mm_fu x6 m5
    unfold fX1_makeNextCompanies_L39
    refine gx_iload_n X 39 40 1 dX1_makeNextCompanies_39 rfl rfl rfl ?_
    refine gx_aload_n X 40 41 0 dX1_makeNextCompanies_40 rfl rfl rfl ?_
    refine gx_getI X 41 44 44 (by decide) rfl rfl fg_X1_27 dX1_makeNextCompanies_41 rfl ?_
    refine gx_icmp_ge X 44 60 47 dX1_makeNextCompanies_44 rfl rfl ?_ ?_
    · refine gx_sub [] rfl ?_
      exact hk_60 m9
    refine gx_aload_n X 47 48 0 dX1_makeNextCompanies_47 rfl rfl rfl ?_
    refine gx_getR X 48 51 44 (by decide) rfl rfl fg_X1_18 dX1_makeNextCompanies_48 rfl ?_
    refine gx_iload_n X 51 52 1 dX1_makeNextCompanies_51 rfl rfl rfl ?_
    refine gx_iconst X 52 53 (0) dX1_makeNextCompanies_52 rfl ci_0 ?_
    refine gx_iastore X 53 54 47 (by decide) rfl dX1_makeNextCompanies_53 rfl (fun m10 => ?_)
    refine gx_iinc X 54 57 1 (1) (fun x11 => [(2, .int x11), (0, .ref (adr 44))]) dX1_makeNextCompanies_54 rfl rfl ci_1 (by decide) (fun _ => rfl) (fun x11 => ?_)
    refine gx_goto X 57 39 dX1_makeNextCompanies_57 rfl ?_
    refine gx_sub [1, 0] rfl ?_
    exact hr_39 x11 m10
  refine gx_sub [1, 0] rfl ?_
  refine mm_lk_ind (fun (rec : Int32 → Mm → Aa) => ∀ (x12 : Int32) (m13 : Mm), mm_G p l e rX1_makeNextCompanies s m args below meth c 3 D cA adr sX NX (mm_Qi D cA adr sX NX) m13 7 [(0, .ref (adr 44)), (1, .int x12)] [] (rec x12 m13)) (fun _ _ => gx_none) (fun rec_7 hr_7 x12 m13 => ?_) mm_fu x1 μ
  unfold fX1_makeNextCompanies_L7
  refine gx_iload_n X 7 8 1 dX1_makeNextCompanies_7 rfl rfl rfl ?_
  refine gx_if_le X 8 68 11 dX1_makeNextCompanies_8 rfl rfl ?_ ?_
  · refine gx_sub [] rfl ?_
    exact hk_68 m13
  refine gx_aload_n X 11 12 0 dX1_makeNextCompanies_11 rfl rfl rfl ?_
  refine gx_getR X 12 15 44 (by decide) rfl rfl fg_X1_18 dX1_makeNextCompanies_12 rfl ?_
  refine gx_iload_n X 15 16 1 dX1_makeNextCompanies_15 rfl rfl rfl ?_
  refine gx_iaload X 16 17 47 (by decide) rfl dX1_makeNextCompanies_16 rfl ?_
  refine gx_aload_n X 17 18 0 dX1_makeNextCompanies_17 rfl rfl rfl ?_
  refine gx_iload_n X 18 19 1 dX1_makeNextCompanies_18 rfl rfl rfl ?_
  refine gx_calliV X 19 22 44 (rest := [.int (m13 47 x12.toNatClampNeg)]) (As := [.int x12]) (tX1_mostAhead hJ x12 m13) (by decide) rfl rfl wc_X1_mostAhead wl_X1_94 wi_X1_mostAhead ws_X1_mostAhead wn_X1 rfl hd_X1_mostAhead ⟨Nat.le_of_ble_eq_true rfl, Nat.le_of_ble_eq_true rfl⟩ ⟨rfl, rfl⟩ rfl rfl (Nat.le_of_ble_eq_true rfl) dX1_makeNextCompanies_19 rfl (fun x14 m15 => ?_)
  refine gx_icmp_gt X 22 62 25 dX1_makeNextCompanies_22 rfl rfl ?_ ?_
  · refine gx_iinc X 62 65 1 (-1) (fun x16 => [(1, .int x16), (0, .ref (adr 44))]) dX1_makeNextCompanies_62 rfl rfl ci_m1 (by decide) (fun _ => rfl) (fun x16 => ?_)
    refine gx_goto X 65 7 dX1_makeNextCompanies_65 rfl ?_
    refine gx_sub [1, 0] rfl ?_
    exact hr_7 x16 m15
  exact hk_25 x12 m15
def fX1_swap (a1 : Int32) (a2 : Int32) (μ : Mm) : Aa := mm_ck a1 6 (mm_lt (μ 47 a1.toNatClampNeg) (fun (x1 : Int32) => mm_ck a2 6 (mm_ck a1 6 (mm_lt (mm_wr μ 47 a1.toNatClampNeg (μ 47 a2.toNatClampNeg)) (fun (m2 : Mm) => mm_ck a2 6 (mm_lt (mm_wr m2 47 a2.toNatClampNeg x1) (fun (m3 : Mm) => some (0, m3))))))))
abbrev rX1_swap : Room := { frames := 0, cells := 0, slots := 0, locals := 0 }
set_option maxRecDepth 100000 in
set_option maxHeartbeats 8000000 in
theorem tX1_swap {l : Launch} {D : va_G} {cA : Nat → ClassId} {adr : Nat → Nat} {tt sK sV : Nat → Nat} {qv : Value} (hJ : mm_J adr NX) (a1 : Int32) (a2 : Int32) (μ : Mm) : mm_Mv l D cA adr sX NX (mm_SX (mm_A adr NX) tt sK sV qv) yX1_swap cX1_swap 4 none rX1_swap [.ref (adr 44), .int a1, .int a2] μ (fX1_swap a1 a2 μ) := by
  refine mm_entryv hJ mm_okX (by decide) (Nat.le_of_ble_eq_true rfl) ⟨rfl, rfl⟩ (fun p e s m below meth c X hr => ?_)
  generalize ([.ref (adr 44), .int a1, .int a2] : List Value).toArray = args at X ⊢
  refine gx_lv (lv' := [(0, .ref (adr 44)), (1, .int a1), (2, .int a2)]) rfl ?_
  unfold fX1_swap
  refine gx_aload_n X 0 1 0 dX1_swap_0 rfl rfl rfl ?_
  refine gx_getR X 1 4 44 (by decide) rfl rfl fg_X1_18 dX1_swap_1 rfl ?_
  refine gx_iload_n X 4 5 1 dX1_swap_4 rfl rfl rfl ?_
  refine gx_iaload X 5 6 47 (by decide) rfl dX1_swap_5 rfl ?_
  refine gx_istore_n X 6 7 (fun x1 => [(3, .int x1), (0, .ref (adr 44)), (1, .int a1), (2, .int a2)]) dX1_swap_6 rfl rfl (by decide) (fun _ => rfl) (fun x1 => ?_)
  refine gx_aload_n X 7 8 1 dX1_swap_7 rfl rfl rfl ?_
  refine gx_getR X 8 11 44 (by decide) rfl rfl fg_X1_18 dX1_swap_8 rfl ?_
  refine gx_iload_n X 11 12 2 dX1_swap_11 rfl rfl rfl ?_
  refine gx_aload_n X 12 13 1 dX1_swap_12 rfl rfl rfl ?_
  refine gx_getR X 13 16 44 (by decide) rfl rfl fg_X1_18 dX1_swap_13 rfl ?_
  refine gx_iload_n X 16 17 3 dX1_swap_16 rfl rfl rfl ?_
  refine gx_iaload X 17 18 47 (by decide) rfl dX1_swap_17 rfl ?_
  refine gx_iastore X 18 19 47 (by decide) rfl dX1_swap_18 rfl (fun m2 => ?_)
  refine gx_aload_n X 19 20 1 dX1_swap_19 rfl rfl rfl ?_
  refine gx_getR X 20 23 44 (by decide) rfl rfl fg_X1_18 dX1_swap_20 rfl ?_
  refine gx_iload_n X 23 24 3 dX1_swap_23 rfl rfl rfl ?_
  refine gx_iload_n X 24 25 0 dX1_swap_24 rfl rfl rfl ?_
  refine gx_iastore X 25 26 47 (by decide) rfl dX1_swap_25 rfl (fun m3 => ?_)
  exact gx_vret X 26 hr dX1_swap_26
def fX1_makeNextRow_L91 (k_113 : Mm → Aa) (rec_91 : Int32 → Int32 → Mm → Aa) (x12 : Int32) (x13 : Int32) (m14 : Mm) : Aa := if x12 ≤ x13 then (k_113 m14) else (mm_cl (fX1_swap x13 x12 m14) (fun (x15 : Int32) (m16 : Mm) => mm_lt (x12 + (-1)) (fun (x17 : Int32) => mm_lt (x13 + 1) (fun (x18 : Int32) => rec_91 x17 x18 m16))))
def fX1_makeNextRow_L47 (x2 : Int32) (k_73 : Int32 → Mm → Aa) (rec_47 : Int32 → Mm → Aa) (x19 : Int32) (m20 : Mm) : Aa := if x19 ≤ x2 then (k_73 x19 m20) else (mm_ck x19 6 (mm_ck x2 6 (if (m20 47 x2.toNatClampNeg) ≤ (m20 47 x19.toNatClampNeg) then (k_73 x19 m20) else (mm_lt (x19 + (-1)) (fun (x21 : Int32) => rec_47 x21 m20)))))
def fX1_makeNextRow_L7 (k_34 : Int32 → Mm → Aa) (rec_7 : Int32 → Mm → Aa) (x22 : Int32) (m23 : Mm) : Aa := if x22 < 0 then (k_34 x22 m23) else (mm_ck x22 6 (mm_ck (x22 + 1) 6 (if (m23 47 x22.toNatClampNeg) ≤ (m23 47 (x22 + 1).toNatClampNeg) then (k_34 x22 m23) else (mm_lt (x22 + (-1)) (fun (x24 : Int32) => rec_7 x24 m23)))))
def fX1_makeNextRow (μ : Mm) : Aa := mm_lt ((μ 44 0) - 2) (fun (x1 : Int32) => mm_lt (fun (x2 : Int32) (m3 : Mm) => if 0 ≤ x2 then (mm_lt ((m3 44 0) - 1) (fun (x4 : Int32) => mm_lt (fun (x5 : Int32) (m6 : Mm) => mm_cl (fX1_swap x2 x5 m6) (fun (x7 : Int32) (m8 : Mm) => mm_lt ((m8 44 0) - 1) (fun (x9 : Int32) => mm_lt (x2 + 1) (fun (x10 : Int32) => mm_lt (fun (m11 : Mm) => mm_bo 1 (some (1, m11))) (fun (k_113 : Mm → Aa) => mm_lk (fun (_ : Int32) (_ : Int32) (_ : Mm) => (none : Aa)) (fX1_makeNextRow_L91 k_113) mm_fu x9 x10 m8))))) (fun (k_73 : Int32 → Mm → Aa) => mm_lk (fun (_ : Int32) (_ : Mm) => (none : Aa)) (fX1_makeNextRow_L47 x2 k_73) mm_fu x4 m3))) else (mm_bo 0 (some (0, m3)))) (fun (k_34 : Int32 → Mm → Aa) => mm_lk (fun (_ : Int32) (_ : Mm) => (none : Aa)) (fX1_makeNextRow_L7 k_34) mm_fu x1 μ))
abbrev rX1_makeNextRow : Room := { frames := 1, cells := 0, slots := 0, locals := 23 }
set_option maxRecDepth 100000 in
set_option maxHeartbeats 8000000 in
theorem tX1_makeNextRow {l : Launch} {D : va_G} {cA : Nat → ClassId} {adr : Nat → Nat} {tt sK sV : Nat → Nat} {qv : Value} (hJ : mm_J adr NX) (μ : Mm) : mm_Mi l D cA adr sX NX (mm_SX (mm_A adr NX) tt sK sV qv) yX1_makeNextRow cX1_makeNextRow 5 (some .boolean) rX1_makeNextRow [.ref (adr 44)] μ (fX1_makeNextRow μ) := by
  refine mm_entryi hJ mm_okX (by decide) (Nat.le_of_ble_eq_true rfl) ⟨rfl, rfl⟩ (fun p e s m below meth c X hr => ?_)
  generalize ([.ref (adr 44)] : List Value).toArray = args at X ⊢
  refine gx_lv (lv' := [(0, .ref (adr 44))]) rfl ?_
  unfold fX1_makeNextRow
  refine gx_aload_n X 0 1 0 dX1_makeNextRow_0 rfl rfl rfl ?_
  refine gx_getI X 1 4 44 (by decide) rfl rfl fg_X1_27 dX1_makeNextRow_1 rfl ?_
  refine gx_iconst X 4 5 (2) dX1_makeNextRow_4 rfl ci_2 ?_
  refine gx_isub X 5 6 dX1_makeNextRow_5 rfl ?_
  refine gx_istore_n X 6 7 (fun x1 => [(1, .int x1), (0, .ref (adr 44))]) dX1_makeNextRow_6 rfl rfl (by decide) (fun _ => rfl) (fun x1 => ?_)
  refine gx_jn (fun (k : Int32 → Mm → Aa) => ∀ (x2 : Int32) (m3 : Mm), mm_G p l e rX1_makeNextRow s m args below meth c 5 D cA adr sX NX (mm_Qi D cA adr sX NX) m3 34 [(0, .ref (adr 44)), (1, .int x2)] [] (k x2 m3)) ?_ (fun k_34 hk_34 => ?_)
  · intro x2 m3
    refine gx_iload_n X 34 35 1 dX1_makeNextRow_34 rfl rfl rfl ?_
    refine gx_if_ge X 35 40 38 dX1_makeNextRow_35 rfl rfl ?_ ?_
    · refine gx_aload_n X 40 41 0 dX1_makeNextRow_40 rfl rfl rfl ?_
      refine gx_getI X 41 44 44 (by decide) rfl rfl fg_X1_27 dX1_makeNextRow_41 rfl ?_
      refine gx_iconst X 44 45 (1) dX1_makeNextRow_44 rfl ci_1 ?_
      refine gx_isub X 45 46 dX1_makeNextRow_45 rfl ?_
      refine gx_istore_n X 46 47 (fun x4 => [(2, .int x4), (0, .ref (adr 44)), (1, .int x2)]) dX1_makeNextRow_46 rfl rfl (by decide) (fun _ => rfl) (fun x4 => ?_)
      refine gx_jn (fun (k : Int32 → Mm → Aa) => ∀ (x5 : Int32) (m6 : Mm), mm_G p l e rX1_makeNextRow s m args below meth c 5 D cA adr sX NX (mm_Qi D cA adr sX NX) m6 73 [(0, .ref (adr 44)), (1, .int x2), (2, .int x5)] [] (k x5 m6)) ?_ (fun k_73 hk_73 => ?_)
      · intro x5 m6
        refine gx_aload_n X 73 74 0 dX1_makeNextRow_73 rfl rfl rfl ?_
        refine gx_iload_n X 74 75 1 dX1_makeNextRow_74 rfl rfl rfl ?_
        refine gx_iload_n X 75 76 2 dX1_makeNextRow_75 rfl rfl rfl ?_
        refine gx_callvV X 76 79 44 (rest := []) (As := [.int x2, .int x5]) (tX1_swap hJ x2 x5 m6) (by decide) rfl rfl wc_X1_swap wl_X1_103 wi_X1_swap ws_X1_swap wn_X1 rfl hd_X1_swap ⟨Nat.le_of_ble_eq_true rfl, Nat.le_of_ble_eq_true rfl⟩ ⟨rfl, rfl⟩ rfl rfl (Nat.le_of_ble_eq_true rfl) dX1_makeNextRow_76 rfl (fun x7 m8 => ?_)
        refine gx_aload_n X 79 80 0 dX1_makeNextRow_79 rfl rfl rfl ?_
        refine gx_getI X 80 83 44 (by decide) rfl rfl fg_X1_27 dX1_makeNextRow_80 rfl ?_
        refine gx_iconst X 83 84 (1) dX1_makeNextRow_83 rfl ci_1 ?_
        refine gx_isub X 84 85 dX1_makeNextRow_84 rfl ?_
        refine gx_istore_n X 85 86 (fun x9 => [(3, .int x9), (0, .ref (adr 44)), (1, .int x2), (2, .int x5)]) dX1_makeNextRow_85 rfl rfl (by decide) (fun _ => rfl) (fun x9 => ?_)
        refine gx_iload_n X 86 87 2 dX1_makeNextRow_86 rfl rfl rfl ?_
        refine gx_iconst X 87 88 (1) dX1_makeNextRow_87 rfl ci_1 ?_
        refine gx_iadd X 88 89 dX1_makeNextRow_88 rfl ?_
        refine gx_istore X 89 91 (fun x10 => [(4, .int x10), (3, .int x9), (0, .ref (adr 44)), (1, .int x2), (2, .int x5)]) dX1_makeNextRow_89 rfl (by decide) (fun _ => rfl) (fun x10 => ?_)
        refine gx_jn (fun (k : Mm → Aa) => ∀ (m11 : Mm), mm_G p l e rX1_makeNextRow s m args below meth c 5 D cA adr sX NX (mm_Qi D cA adr sX NX) m11 113 [] [] (k m11)) ?_ (fun k_113 hk_113 => ?_)
        · intro m11
          refine gx_iconst X 113 114 (1) dX1_makeNextRow_113 rfl ci_1 ?_
          exact gx_zret X 114 hr dX1_makeNextRow_114
        refine gx_sub [2, 1, 0] rfl ?_
        refine mm_lk_ind (fun (rec : Int32 → Int32 → Mm → Aa) => ∀ (x12 : Int32) (x13 : Int32) (m14 : Mm), mm_G p l e rX1_makeNextRow s m args below meth c 5 D cA adr sX NX (mm_Qi D cA adr sX NX) m14 91 [(0, .ref (adr 44)), (3, .int x12), (4, .int x13)] [] (rec x12 x13 m14)) (fun _ _ _ => gx_none) (fun rec_91 hr_91 x12 x13 m14 => ?_) mm_fu x9 x10 m8
        unfold fX1_makeNextRow_L91
        refine gx_iload X 91 93 2 dX1_makeNextRow_91 rfl rfl ?_
        refine gx_iload_n X 93 94 1 dX1_makeNextRow_93 rfl rfl rfl ?_
        refine gx_icmp_ge X 94 113 97 dX1_makeNextRow_94 rfl rfl ?_ ?_
        · refine gx_sub [] rfl ?_
          exact hk_113 m14
        refine gx_aload_n X 97 98 0 dX1_makeNextRow_97 rfl rfl rfl ?_
        refine gx_iload X 98 100 2 dX1_makeNextRow_98 rfl rfl ?_
        refine gx_iload_n X 100 101 1 dX1_makeNextRow_100 rfl rfl rfl ?_
        refine gx_callvV X 101 104 44 (rest := []) (As := [.int x13, .int x12]) (tX1_swap hJ x13 x12 m14) (by decide) rfl rfl wc_X1_swap wl_X1_103 wi_X1_swap ws_X1_swap wn_X1 rfl hd_X1_swap ⟨Nat.le_of_ble_eq_true rfl, Nat.le_of_ble_eq_true rfl⟩ ⟨rfl, rfl⟩ rfl rfl (Nat.le_of_ble_eq_true rfl) dX1_makeNextRow_101 rfl (fun x15 m16 => ?_)
        refine gx_iinc X 104 107 1 (-1) (fun x17 => [(3, .int x17), (0, .ref (adr 44)), (4, .int x13)]) dX1_makeNextRow_104 rfl rfl ci_m1 (by decide) (fun _ => rfl) (fun x17 => ?_)
        refine gx_iinc X 107 110 2 (1) (fun x18 => [(4, .int x18), (3, .int x17), (0, .ref (adr 44))]) dX1_makeNextRow_107 rfl rfl ci_1 (by decide) (fun _ => rfl) (fun x18 => ?_)
        refine gx_goto X 110 91 dX1_makeNextRow_110 rfl ?_
        refine gx_sub [2, 1, 0] rfl ?_
        exact hr_91 x17 x18 m16
      refine gx_sub [1, 2, 0] rfl ?_
      refine mm_lk_ind (fun (rec : Int32 → Mm → Aa) => ∀ (x19 : Int32) (m20 : Mm), mm_G p l e rX1_makeNextRow s m args below meth c 5 D cA adr sX NX (mm_Qi D cA adr sX NX) m20 47 [(0, .ref (adr 44)), (1, .int x2), (2, .int x19)] [] (rec x19 m20)) (fun _ _ => gx_none) (fun rec_47 hr_47 x19 m20 => ?_) mm_fu x4 m3
      unfold fX1_makeNextRow_L47
      refine gx_iload_n X 47 48 2 dX1_makeNextRow_47 rfl rfl rfl ?_
      refine gx_iload_n X 48 49 1 dX1_makeNextRow_48 rfl rfl rfl ?_
      refine gx_icmp_le X 49 73 52 dX1_makeNextRow_49 rfl rfl ?_ ?_
      · exact hk_73 x19 m20
      refine gx_aload_n X 52 53 0 dX1_makeNextRow_52 rfl rfl rfl ?_
      refine gx_getR X 53 56 44 (by decide) rfl rfl fg_X1_18 dX1_makeNextRow_53 rfl ?_
      refine gx_iload_n X 56 57 2 dX1_makeNextRow_56 rfl rfl rfl ?_
      refine gx_iaload X 57 58 47 (by decide) rfl dX1_makeNextRow_57 rfl ?_
      refine gx_aload_n X 58 59 0 dX1_makeNextRow_58 rfl rfl rfl ?_
      refine gx_getR X 59 62 44 (by decide) rfl rfl fg_X1_18 dX1_makeNextRow_59 rfl ?_
      refine gx_iload_n X 62 63 1 dX1_makeNextRow_62 rfl rfl rfl ?_
      refine gx_iaload X 63 64 47 (by decide) rfl dX1_makeNextRow_63 rfl ?_
      refine gx_icmp_ge X 64 73 67 dX1_makeNextRow_64 rfl rfl ?_ ?_
      · exact hk_73 x19 m20
      refine gx_iinc X 67 70 2 (-1) (fun x21 => [(2, .int x21), (0, .ref (adr 44)), (1, .int x2)]) dX1_makeNextRow_67 rfl rfl ci_m1 (by decide) (fun _ => rfl) (fun x21 => ?_)
      refine gx_goto X 70 47 dX1_makeNextRow_70 rfl ?_
      refine gx_sub [1, 2, 0] rfl ?_
      exact hr_47 x21 m20
    refine gx_iconst X 38 39 (0) dX1_makeNextRow_38 rfl ci_0 ?_
    exact gx_zret X 39 hr dX1_makeNextRow_39
  refine gx_sub [1, 0] rfl ?_
  refine mm_lk_ind (fun (rec : Int32 → Mm → Aa) => ∀ (x22 : Int32) (m23 : Mm), mm_G p l e rX1_makeNextRow s m args below meth c 5 D cA adr sX NX (mm_Qi D cA adr sX NX) m23 7 [(0, .ref (adr 44)), (1, .int x22)] [] (rec x22 m23)) (fun _ _ => gx_none) (fun rec_7 hr_7 x22 m23 => ?_) mm_fu x1 μ
  unfold fX1_makeNextRow_L7
  refine gx_iload_n X 7 8 1 dX1_makeNextRow_7 rfl rfl rfl ?_
  refine gx_if_lt X 8 34 11 dX1_makeNextRow_8 rfl rfl ?_ ?_
  · exact hk_34 x22 m23
  refine gx_aload_n X 11 12 0 dX1_makeNextRow_11 rfl rfl rfl ?_
  refine gx_getR X 12 15 44 (by decide) rfl rfl fg_X1_18 dX1_makeNextRow_12 rfl ?_
  refine gx_iload_n X 15 16 1 dX1_makeNextRow_15 rfl rfl rfl ?_
  refine gx_iaload X 16 17 47 (by decide) rfl dX1_makeNextRow_16 rfl ?_
  refine gx_aload_n X 17 18 0 dX1_makeNextRow_17 rfl rfl rfl ?_
  refine gx_getR X 18 21 44 (by decide) rfl rfl fg_X1_18 dX1_makeNextRow_18 rfl ?_
  refine gx_iload_n X 21 22 1 dX1_makeNextRow_21 rfl rfl rfl ?_
  refine gx_iconst X 22 23 (1) dX1_makeNextRow_22 rfl ci_1 ?_
  refine gx_iadd X 23 24 dX1_makeNextRow_23 rfl ?_
  refine gx_iaload X 24 25 47 (by decide) rfl dX1_makeNextRow_24 rfl ?_
  refine gx_icmp_le X 25 34 28 dX1_makeNextRow_25 rfl rfl ?_ ?_
  · exact hk_34 x22 m23
  refine gx_iinc X 28 31 1 (-1) (fun x24 => [(1, .int x24), (0, .ref (adr 44))]) dX1_makeNextRow_28 rfl rfl ci_m1 (by decide) (fun _ => rfl) (fun x24 => ?_)
  refine gx_goto X 31 7 dX1_makeNextRow_31 rfl ?_
  refine gx_sub [1, 0] rfl ?_
  exact hr_7 x24 m23
def fX1_keepIfBetter (μ : Mm) : Aa := mm_cl (fX0_run 999 μ) (fun (x1 : Int32) (m2 : Mm) => mm_cl (fX0_lastOver m2) (fun (x3 : Int32) (m4 : Mm) => mm_lt x3 (fun (x5 : Int32) => mm_cl (fX0_sumOfOver m4) (fun (x6 : Int32) (m7 : Mm) => mm_lt x6 (fun (x8 : Int32) => mm_lt (fun (m9 : Mm) => some (0, m9)) (fun (k_68 : Mm → Aa) => mm_lt (fun (m10 : Mm) => mm_lt (mm_wr m10 44 2 x5) (fun (m11 : Mm) => mm_lt (mm_wr m11 44 3 x8) (fun (m12 : Mm) => mm_ac 0 0 (m12 44 0) 6 6 (mm_lt (mm_cp m12 47 45 (0 : Int32).toNatClampNeg (0 : Int32).toNatClampNeg (m12 44 0).toNatClampNeg) (fun (m13 : Mm) => k_68 m13))))) (fun (k_41 : Mm → Aa) => if x5 < (m7 44 2) then (k_41 m7) else (if x5 = (m7 44 2) then (if (m7 44 3) ≤ x8 then (k_68 m7) else (k_41 m7)) else (k_68 m7)))))))))
abbrev rX1_keepIfBetter : Room := { frames := 5, cells := 0, slots := 0, locals := 109 }
set_option maxRecDepth 100000 in
set_option maxHeartbeats 8000000 in
theorem tX1_keepIfBetter {l : Launch} {D : va_G} {cA : Nat → ClassId} {adr : Nat → Nat} {tt sK sV : Nat → Nat} {qv : Value} (hJ : mm_J adr NX) (μ : Mm) : mm_Mv l D cA adr sX NX (mm_SX (mm_A adr NX) tt sK sV qv) yX1_keepIfBetter cX1_keepIfBetter 4 none rX1_keepIfBetter [.ref (adr 44), .ref (adr 30)] μ (fX1_keepIfBetter μ) := by
  refine mm_entryv hJ mm_okX (by decide) (Nat.le_of_ble_eq_true rfl) ⟨rfl, rfl⟩ (fun p e s m below meth c X hr => ?_)
  generalize ([.ref (adr 44), .ref (adr 30)] : List Value).toArray = args at X ⊢
  refine gx_lv (lv' := [(0, .ref (adr 44)), (1, .ref (adr 30))]) rfl ?_
  unfold fX1_keepIfBetter
  refine gx_aload_n X 0 1 1 dX1_keepIfBetter_0 rfl rfl rfl ?_
  refine gx_sipush X 1 4 (999) dX1_keepIfBetter_1 rfl cs_999 ?_
  refine gx_callvV X 4 7 30 (rest := []) (As := [.int 999]) (tX0_run hJ 999 μ) (by decide) rfl rfl wc_X0_run wl_X1_77 wi_X0_run ws_X0_run wn_X0 rfl hd_X0_run ⟨Nat.le_of_ble_eq_true rfl, Nat.le_of_ble_eq_true rfl⟩ ⟨rfl, rfl⟩ rfl rfl (Nat.le_of_ble_eq_true rfl) dX1_keepIfBetter_4 rfl (fun x1 m2 => ?_)
  refine gx_aload_n X 7 8 1 dX1_keepIfBetter_7 rfl rfl rfl ?_
  refine gx_calliV X 8 11 30 (rest := []) (As := []) (tX0_lastOver hJ m2) (by decide) rfl rfl wc_X0_lastOver wl_X1_81 wi_X0_lastOver ws_X0_lastOver wn_X0 rfl hd_X0_lastOver ⟨Nat.le_of_ble_eq_true rfl, Nat.le_of_ble_eq_true rfl⟩ ⟨rfl, rfl⟩ rfl rfl (Nat.le_of_ble_eq_true rfl) dX1_keepIfBetter_8 rfl (fun x3 m4 => ?_)
  refine gx_istore_n X 11 12 (fun x5 => [(2, .int x5), (0, .ref (adr 44)), (1, .ref (adr 30))]) dX1_keepIfBetter_11 rfl rfl (by decide) (fun _ => rfl) (fun x5 => ?_)
  refine gx_aload_n X 12 13 2 dX1_keepIfBetter_12 rfl rfl rfl ?_
  refine gx_calliV X 13 16 30 (rest := []) (As := []) (tX0_sumOfOver hJ m4) (by decide) rfl rfl wc_X0_sumOfOver wl_X1_85 wi_X0_sumOfOver ws_X0_sumOfOver wn_X0 rfl hd_X0_sumOfOver ⟨Nat.le_of_ble_eq_true rfl, Nat.le_of_ble_eq_true rfl⟩ ⟨rfl, rfl⟩ rfl rfl (Nat.le_of_ble_eq_true rfl) dX1_keepIfBetter_13 rfl (fun x6 m7 => ?_)
  refine gx_istore_n X 16 17 (fun x8 => [(3, .int x8), (2, .int x5), (0, .ref (adr 44)), (1, .ref (adr 30))]) dX1_keepIfBetter_16 rfl rfl (by decide) (fun _ => rfl) (fun x8 => ?_)
  refine gx_iload_n X 17 18 1 dX1_keepIfBetter_17 rfl rfl rfl ?_
  refine gx_aload_n X 18 19 2 dX1_keepIfBetter_18 rfl rfl rfl ?_
  refine gx_getI X 19 22 44 (by decide) rfl rfl fg_X1_66 dX1_keepIfBetter_19 rfl ?_
  refine gx_jn (fun (k : Mm → Aa) => ∀ (m9 : Mm), mm_G p l e rX1_keepIfBetter s m args below meth c 4 D cA adr sX NX (mm_Qv D cA adr sX NX) m9 68 [] [] (k m9)) ?_ (fun k_68 hk_68 => ?_)
  · intro m9
    exact gx_vret X 68 hr dX1_keepIfBetter_68
  refine gx_jn (fun (k : Mm → Aa) => ∀ (m10 : Mm), mm_G p l e rX1_keepIfBetter s m args below meth c 4 D cA adr sX NX (mm_Qv D cA adr sX NX) m10 41 [(0, .ref (adr 44)), (2, .int x5), (3, .int x8)] [] (k m10)) ?_ (fun k_41 hk_41 => ?_)
  · intro m10
    refine gx_aload_n X 41 42 0 dX1_keepIfBetter_41 rfl rfl rfl ?_
    refine gx_iload_n X 42 43 1 dX1_keepIfBetter_42 rfl rfl rfl ?_
    refine gx_putI X 43 46 44 (by decide) rfl rfl fp_X1_66 dX1_keepIfBetter_43 rfl (fun m11 => ?_)
    refine gx_aload_n X 46 47 0 dX1_keepIfBetter_46 rfl rfl rfl ?_
    refine gx_iload_n X 47 48 2 dX1_keepIfBetter_47 rfl rfl rfl ?_
    refine gx_putI X 48 51 44 (by decide) rfl rfl fp_X1_69 dX1_keepIfBetter_48 rfl (fun m12 => ?_)
    refine gx_aload_n X 51 52 0 dX1_keepIfBetter_51 rfl rfl rfl ?_
    refine gx_getR X 52 55 44 (by decide) rfl rfl fg_X1_18 dX1_keepIfBetter_52 rfl ?_
    refine gx_iconst X 55 56 (0) dX1_keepIfBetter_55 rfl ci_0 ?_
    refine gx_aload_n X 56 57 0 dX1_keepIfBetter_56 rfl rfl rfl ?_
    refine gx_getR X 57 60 44 (by decide) rfl rfl fg_X1_9 dX1_keepIfBetter_57 rfl ?_
    refine gx_iconst X 60 61 (0) dX1_keepIfBetter_60 rfl ci_0 ?_
    refine gx_aload_n X 61 62 0 dX1_keepIfBetter_61 rfl rfl rfl ?_
    refine gx_getI X 62 65 44 (by decide) rfl rfl fg_X1_27 dX1_keepIfBetter_62 rfl ?_
    refine gx_acopy X 65 68 47 45 (by decide) (by decide) rfl rfl wl_X1_88 (by decide) (Nat.le_of_ble_eq_true rfl) dX1_keepIfBetter_65 rfl (fun m13 => ?_)
    refine gx_sub [] rfl ?_
    exact hk_68 m13
  refine gx_icmp_lt X 22 41 25 dX1_keepIfBetter_22 rfl rfl ?_ ?_
  · refine gx_sub [2, 1, 0] rfl ?_
    exact hk_41 m7
  refine gx_iload_n X 25 26 1 dX1_keepIfBetter_25 rfl rfl rfl ?_
  refine gx_aload_n X 26 27 2 dX1_keepIfBetter_26 rfl rfl rfl ?_
  refine gx_getI X 27 30 44 (by decide) rfl rfl fg_X1_66 dX1_keepIfBetter_27 rfl ?_
  refine gx_icmp_ne X 30 68 33 dX1_keepIfBetter_30 rfl rfl ?_ ?_
  · refine gx_sub [] rfl ?_
    exact hk_68 m7
  refine gx_iload_n X 33 34 0 dX1_keepIfBetter_33 rfl rfl rfl ?_
  refine gx_aload_n X 34 35 2 dX1_keepIfBetter_34 rfl rfl rfl ?_
  refine gx_getI X 35 38 44 (by decide) rfl rfl fg_X1_69 dX1_keepIfBetter_35 rfl ?_
  refine gx_icmp_ge X 38 68 41 dX1_keepIfBetter_38 rfl rfl ?_ ?_
  · refine gx_sub [] rfl ?_
    exact hk_68 m7
  refine gx_sub [2, 1, 0] rfl ?_
  exact hk_41 m7
def fX1_begin (μ : Mm) : Aa := mm_cl (fX0_loadOnce (μ 44 0) μ) (fun (x1 : Int32) (m2 : Mm) => mm_lt (mm_wr m2 44 2 1000000) (fun (m3 : Mm) => mm_lt (mm_wr m3 44 3 1000000) (fun (m4 : Mm) => some (0, m4))))
abbrev rX1_begin : Room := { frames := 5, cells := 0, slots := 0, locals := 111 }
set_option maxRecDepth 100000 in
set_option maxHeartbeats 8000000 in
theorem tX1_begin {l : Launch} {D : va_G} {cA : Nat → ClassId} {adr : Nat → Nat} {tt sK sV : Nat → Nat} {qv : Value} (hJ : mm_J adr NX) (μ : Mm) : mm_Mv l D cA adr sX NX (mm_SX (mm_A adr NX) tt sK sV qv) yX1_begin cX1_begin 3 none rX1_begin [.ref (adr 44), .ref (adr 30), .ref (adr 1)] μ (fX1_begin μ) := by
  refine mm_entryv hJ mm_okX (by decide) (Nat.le_of_ble_eq_true rfl) ⟨rfl, rfl⟩ (fun p e s m below meth c X hr => ?_)
  generalize ([.ref (adr 44), .ref (adr 30), .ref (adr 1)] : List Value).toArray = args at X ⊢
  refine gx_lv (lv' := [(0, .ref (adr 44)), (1, .ref (adr 30)), (2, .ref (adr 1))]) rfl ?_
  unfold fX1_begin
  refine gx_aload_n X 0 1 1 dX1_begin_0 rfl rfl rfl ?_
  refine gx_aload_n X 1 2 2 dX1_begin_1 rfl rfl rfl ?_
  refine gx_aload_n X 2 3 0 dX1_begin_2 rfl rfl rfl ?_
  refine gx_getR X 3 6 44 (by decide) rfl rfl fg_X1_15 dX1_begin_3 rfl ?_
  refine gx_aload_n X 6 7 0 dX1_begin_6 rfl rfl rfl ?_
  refine gx_getI X 7 10 44 (by decide) rfl rfl fg_X1_27 dX1_begin_7 rfl ?_
  refine gx_callvV X 10 13 30 (rest := []) (As := [.ref (adr 1), .ref (adr 46), .int (μ 44 0)]) (tX0_loadOnce hJ (μ 44 0) μ) (by decide) rfl rfl wc_X0_loadOnce wl_X1_72 wi_X0_loadOnce ws_X0_loadOnce wn_X0 rfl hd_X0_loadOnce ⟨Nat.le_of_ble_eq_true rfl, Nat.le_of_ble_eq_true rfl⟩ ⟨rfl, rfl⟩ rfl rfl (Nat.le_of_ble_eq_true rfl) dX1_begin_10 rfl (fun x1 m2 => ?_)
  refine gx_aload_n X 13 14 0 dX1_begin_13 rfl rfl rfl ?_
  refine gx_ldc X 14 16 wk_X1_76 dX1_begin_14 rfl ?_
  refine gx_putI X 16 19 44 (by decide) rfl rfl fp_X1_66 dX1_begin_16 rfl (fun m3 => ?_)
  refine gx_aload_n X 19 20 0 dX1_begin_19 rfl rfl rfl ?_
  refine gx_ldc X 20 22 wk_X1_76 dX1_begin_20 rfl ?_
  refine gx_putI X 22 25 44 (by decide) rfl rfl fp_X1_69 dX1_begin_22 rfl (fun m4 => ?_)
  exact gx_vret X 25 hr dX1_begin_25
def fX1_findCompanies_L41 (k_89 : Mm → Aa) (rec_41 : Int32 → Mm → Aa) (x17 : Int32) (m18 : Mm) : Aa := if (m18 44 0) ≤ x17 then (k_89 m18) else (mm_ck x17 10 (mm_ck x17 6 (mm_lt (mm_wr m18 ((34 + x17.toNatClampNeg)) 6 (m18 47 x17.toNatClampNeg)) (fun (m20 : Mm) => mm_ck x17 10 (mm_cl (fX1_companyOf x17 m20) (fun (x22 : Int32) (m23 : Mm) => mm_lt (mm_wr m23 ((34 + x17.toNatClampNeg)) 7 x22) (fun (m24 : Mm) => mm_lt (x17 + 1) (fun (x25 : Int32) => rec_41 x25 m24))))))))
def fX1_findCompanies_L31 (k_101 : Mm → Aa) (k_108 : Mm → Aa) (rec_31 : Int32 → Mm → Aa) (x8 : Int32) (m9 : Mm) : Aa := if 1000 ≤ x8 then (k_108 m9) else (mm_lt 0 (fun (x10 : Int32) => mm_lt (fun (m11 : Mm) => mm_cl (fX1_keepIfBetter m11) (fun (x12 : Int32) (m13 : Mm) => mm_cl (fX1_makeNextCompanies m13) (fun (x14 : Int32) (m15 : Mm) => if x14 = 0 then (k_101 m15) else (mm_lt (x8 + 1) (fun (x16 : Int32) => rec_31 x16 m15))))) (fun (k_89 : Mm → Aa) => mm_lk (fun (_ : Int32) (_ : Mm) => (none : Aa)) (fX1_findCompanies_L41 k_89) mm_fu x10 m9)))
def fX1_findCompanies_L8 (k_29 : Mm → Aa) (rec_8 : Int32 → Mm → Aa) (x26 : Int32) (m27 : Mm) : Aa := if (m27 44 0) ≤ x26 then (k_29 m27) else (mm_ck x26 6 (mm_lt (mm_wr m27 47 x26.toNatClampNeg 0) (fun (m28 : Mm) => mm_lt (x26 + 1) (fun (x29 : Int32) => rec_8 x29 m28))))
def fX1_findCompanies (μ : Mm) : Aa := mm_cl (fX1_begin μ) (fun (x1 : Int32) (m2 : Mm) => mm_lt 0 (fun (x3 : Int32) => mm_lt (fun (m4 : Mm) => mm_lt 0 (fun (x5 : Int32) => mm_lt (fun (m6 : Mm) => some (0, m6)) (fun (k_108 : Mm → Aa) => mm_lt (fun (m7 : Mm) => some (0, m7)) (fun (k_101 : Mm → Aa) => mm_lk (fun (_ : Int32) (_ : Mm) => (none : Aa)) (fX1_findCompanies_L31 k_101 k_108) mm_fu x5 m4)))) (fun (k_29 : Mm → Aa) => mm_lk (fun (_ : Int32) (_ : Mm) => (none : Aa)) (fX1_findCompanies_L8 k_29) mm_fu x3 m2)))
abbrev rX1_findCompanies : Room := { frames := 6, cells := 0, slots := 0, locals := 133 }
set_option maxRecDepth 100000 in
set_option maxHeartbeats 8000000 in
theorem tX1_findCompanies {l : Launch} {D : va_G} {cA : Nat → ClassId} {adr : Nat → Nat} {tt sK sV : Nat → Nat} {qv : Value} (hJ : mm_J adr NX) (μ : Mm) : mm_Mv l D cA adr sX NX (mm_SX (mm_A adr NX) tt sK sV qv) yX1_findCompanies cX1_findCompanies 5 none rX1_findCompanies [.ref (adr 44), .ref (adr 30), .ref (adr 1)] μ (fX1_findCompanies μ) := by
  refine mm_entryv hJ mm_okX (by decide) (Nat.le_of_ble_eq_true rfl) ⟨rfl, rfl⟩ (fun p e s m below meth c X hr => ?_)
  generalize ([.ref (adr 44), .ref (adr 30), .ref (adr 1)] : List Value).toArray = args at X ⊢
  refine gx_lv (lv' := [(0, .ref (adr 44)), (1, .ref (adr 30)), (2, .ref (adr 1))]) rfl ?_
  unfold fX1_findCompanies
  refine gx_aload_n X 0 1 0 dX1_findCompanies_0 rfl rfl rfl ?_
  refine gx_aload_n X 1 2 1 dX1_findCompanies_1 rfl rfl rfl ?_
  refine gx_aload_n X 2 3 2 dX1_findCompanies_2 rfl rfl rfl ?_
  refine gx_callvV X 3 6 44 (rest := []) (As := [.ref (adr 30), .ref (adr 1)]) (tX1_begin hJ μ) (by decide) rfl rfl wc_X1_begin wl_X1_31 wi_X1_begin ws_X1_begin wn_X1 rfl hd_X1_begin ⟨Nat.le_of_ble_eq_true rfl, Nat.le_of_ble_eq_true rfl⟩ ⟨rfl, rfl⟩ rfl rfl (Nat.le_of_ble_eq_true rfl) dX1_findCompanies_3 rfl (fun x1 m2 => ?_)
  refine gx_iconst X 6 7 (0) dX1_findCompanies_6 rfl ci_0 ?_
  refine gx_istore_n X 7 8 (fun x3 => [(3, .int x3), (0, .ref (adr 44)), (1, .ref (adr 30)), (2, .ref (adr 1))]) dX1_findCompanies_7 rfl rfl (by decide) (fun _ => rfl) (fun x3 => ?_)
  refine gx_jn (fun (k : Mm → Aa) => ∀ (m4 : Mm), mm_G p l e rX1_findCompanies s m args below meth c 5 D cA adr sX NX (mm_Qv D cA adr sX NX) m4 29 [(0, .ref (adr 44)), (1, .ref (adr 30))] [] (k m4)) ?_ (fun k_29 hk_29 => ?_)
  · intro m4
    refine gx_iconst X 29 30 (0) dX1_findCompanies_29 rfl ci_0 ?_
    refine gx_istore_n X 30 31 (fun x5 => [(3, .int x5), (0, .ref (adr 44)), (1, .ref (adr 30))]) dX1_findCompanies_30 rfl rfl (by decide) (fun _ => rfl) (fun x5 => ?_)
    refine gx_jn (fun (k : Mm → Aa) => ∀ (m6 : Mm), mm_G p l e rX1_findCompanies s m args below meth c 5 D cA adr sX NX (mm_Qv D cA adr sX NX) m6 108 [] [] (k m6)) ?_ (fun k_108 hk_108 => ?_)
    · intro m6
      exact gx_vret X 108 hr dX1_findCompanies_108
    refine gx_jn (fun (k : Mm → Aa) => ∀ (m7 : Mm), mm_G p l e rX1_findCompanies s m args below meth c 5 D cA adr sX NX (mm_Qv D cA adr sX NX) m7 101 [] [] (k m7)) ?_ (fun k_101 hk_101 => ?_)
    · intro m7
      exact gx_vret X 101 hr dX1_findCompanies_101
    refine gx_sub [1, 2, 0] rfl ?_
    refine mm_lk_ind (fun (rec : Int32 → Mm → Aa) => ∀ (x8 : Int32) (m9 : Mm), mm_G p l e rX1_findCompanies s m args below meth c 5 D cA adr sX NX (mm_Qv D cA adr sX NX) m9 31 [(0, .ref (adr 44)), (1, .ref (adr 30)), (3, .int x8)] [] (rec x8 m9)) (fun _ _ => gx_none) (fun rec_31 hr_31 x8 m9 => ?_) mm_fu x5 m4
    unfold fX1_findCompanies_L31
    refine gx_iload_n X 31 32 2 dX1_findCompanies_31 rfl rfl rfl ?_
    refine gx_sipush X 32 35 (1000) dX1_findCompanies_32 rfl cs_1000 ?_
    refine gx_icmp_ge X 35 108 38 dX1_findCompanies_35 rfl rfl ?_ ?_
    · refine gx_sub [] rfl ?_
      exact hk_108 m9
    refine gx_iconst X 38 39 (0) dX1_findCompanies_38 rfl ci_0 ?_
    refine gx_istore X 39 41 (fun x10 => [(4, .int x10), (0, .ref (adr 44)), (1, .ref (adr 30)), (3, .int x8)]) dX1_findCompanies_39 rfl (by decide) (fun _ => rfl) (fun x10 => ?_)
    refine gx_jn (fun (k : Mm → Aa) => ∀ (m11 : Mm), mm_G p l e rX1_findCompanies s m args below meth c 5 D cA adr sX NX (mm_Qv D cA adr sX NX) m11 89 [(0, .ref (adr 44)), (1, .ref (adr 30)), (3, .int x8)] [] (k m11)) ?_ (fun k_89 hk_89 => ?_)
    · intro m11
      refine gx_aload_n X 89 90 0 dX1_findCompanies_89 rfl rfl rfl ?_
      refine gx_aload_n X 90 91 1 dX1_findCompanies_90 rfl rfl rfl ?_
      refine gx_callvV X 91 94 44 (rest := []) (As := [.ref (adr 30)]) (tX1_keepIfBetter hJ m11) (by decide) rfl rfl wc_X1_keepIfBetter wl_X1_52 wi_X1_keepIfBetter ws_X1_keepIfBetter wn_X1 rfl hd_X1_keepIfBetter ⟨Nat.le_of_ble_eq_true rfl, Nat.le_of_ble_eq_true rfl⟩ ⟨rfl, rfl⟩ rfl rfl (Nat.le_of_ble_eq_true rfl) dX1_findCompanies_91 rfl (fun x12 m13 => ?_)
      refine gx_aload_n X 94 95 0 dX1_findCompanies_94 rfl rfl rfl ?_
      refine gx_calliV X 95 98 44 (rest := []) (As := []) (tX1_makeNextCompanies hJ m13) (by decide) rfl rfl wc_X1_makeNextCompanies wl_X1_56 wi_X1_makeNextCompanies ws_X1_makeNextCompanies wn_X1 rfl hd_X1_makeNextCompanies ⟨Nat.le_of_ble_eq_true rfl, Nat.le_of_ble_eq_true rfl⟩ ⟨rfl, rfl⟩ rfl rfl (Nat.le_of_ble_eq_true rfl) dX1_findCompanies_95 rfl (fun x14 m15 => ?_)
      refine gx_if_ne X 98 102 101 dX1_findCompanies_98 rfl rfl ?_ ?_
      · refine gx_iinc X 102 105 2 (1) (fun x16 => [(3, .int x16), (0, .ref (adr 44)), (1, .ref (adr 30))]) dX1_findCompanies_102 rfl rfl ci_1 (by decide) (fun _ => rfl) (fun x16 => ?_)
        refine gx_goto X 105 31 dX1_findCompanies_105 rfl ?_
        refine gx_sub [1, 2, 0] rfl ?_
        exact hr_31 x16 m15
      refine gx_sub [] rfl ?_
      exact hk_101 m15
    refine gx_sub [1, 2, 3, 0] rfl ?_
    refine mm_lk_ind (fun (rec : Int32 → Mm → Aa) => ∀ (x17 : Int32) (m18 : Mm), mm_G p l e rX1_findCompanies s m args below meth c 5 D cA adr sX NX (mm_Qv D cA adr sX NX) m18 41 [(0, .ref (adr 44)), (1, .ref (adr 30)), (3, .int x8), (4, .int x17)] [] (rec x17 m18)) (fun _ _ => gx_none) (fun rec_41 hr_41 x17 m18 => ?_) mm_fu x10 m9
    unfold fX1_findCompanies_L41
    refine gx_iload X 41 43 3 dX1_findCompanies_41 rfl rfl ?_
    refine gx_aload_n X 43 44 0 dX1_findCompanies_43 rfl rfl rfl ?_
    refine gx_getI X 44 47 44 (by decide) rfl rfl fg_X1_27 dX1_findCompanies_44 rfl ?_
    refine gx_icmp_ge X 47 89 50 dX1_findCompanies_47 rfl rfl ?_ ?_
    · refine gx_sub [0, 1, 2] rfl ?_
      exact hk_89 m18
    refine gx_aload_n X 50 51 1 dX1_findCompanies_50 rfl rfl rfl ?_
    refine gx_getR X 51 54 30 (by decide) rfl rfl fg_X1_35 dX1_findCompanies_51 rfl ?_
    refine gx_iload X 54 56 3 dX1_findCompanies_54 rfl rfl ?_
    refine gx_aaload X 56 57 31 (by decide) rfl rfl rfl dX1_findCompanies_56 rfl (fun h19 => ?_)
    refine gx_aload_n X 57 58 0 dX1_findCompanies_57 rfl rfl rfl ?_
    refine gx_getR X 58 61 44 (by decide) rfl rfl fg_X1_18 dX1_findCompanies_58 rfl ?_
    refine gx_iload X 61 63 3 dX1_findCompanies_61 rfl rfl ?_
    refine gx_iaload X 63 64 47 (by decide) rfl dX1_findCompanies_63 rfl ?_
    refine gx_putI X 64 67 ((34 + x17.toNatClampNeg)) (sX_wl h19) (sX_w h19) rfl fp_X1_41 dX1_findCompanies_64 rfl (fun m20 => ?_)
    refine gx_aload_n X 67 68 1 dX1_findCompanies_67 rfl rfl rfl ?_
    refine gx_getR X 68 71 30 (by decide) rfl rfl fg_X1_35 dX1_findCompanies_68 rfl ?_
    refine gx_iload X 71 73 3 dX1_findCompanies_71 rfl rfl ?_
    refine gx_aaload X 73 74 31 (by decide) rfl rfl rfl dX1_findCompanies_73 rfl (fun h21 => ?_)
    refine gx_aload_n X 74 75 0 dX1_findCompanies_74 rfl rfl rfl ?_
    refine gx_iload X 75 77 3 dX1_findCompanies_75 rfl rfl ?_
    refine gx_calliV X 77 80 44 (rest := [.ref (adr ((34 + x17.toNatClampNeg)))]) (As := [.int x17]) (tX1_companyOf hJ x17 m20) (by decide) rfl rfl wc_X1_companyOf wl_X1_46 wi_X1_companyOf ws_X1_companyOf wn_X1 rfl hd_X1_companyOf ⟨Nat.le_of_ble_eq_true rfl, Nat.le_of_ble_eq_true rfl⟩ ⟨rfl, rfl⟩ rfl rfl (Nat.le_of_ble_eq_true rfl) dX1_findCompanies_77 rfl (fun x22 m23 => ?_)
    refine gx_putI X 80 83 ((34 + x17.toNatClampNeg)) (sX_wl h21) (sX_w h21) rfl fp_X1_49 dX1_findCompanies_80 rfl (fun m24 => ?_)
    refine gx_iinc X 83 86 3 (1) (fun x25 => [(4, .int x25), (0, .ref (adr 44)), (1, .ref (adr 30)), (3, .int x8)]) dX1_findCompanies_83 rfl rfl ci_1 (by decide) (fun _ => rfl) (fun x25 => ?_)
    refine gx_goto X 86 41 dX1_findCompanies_86 rfl ?_
    refine gx_sub [1, 2, 3, 0] rfl ?_
    exact hr_41 x25 m24
  refine gx_sub [1, 2, 0] rfl ?_
  refine mm_lk_ind (fun (rec : Int32 → Mm → Aa) => ∀ (x26 : Int32) (m27 : Mm), mm_G p l e rX1_findCompanies s m args below meth c 5 D cA adr sX NX (mm_Qv D cA adr sX NX) m27 8 [(0, .ref (adr 44)), (1, .ref (adr 30)), (3, .int x26)] [] (rec x26 m27)) (fun _ _ => gx_none) (fun rec_8 hr_8 x26 m27 => ?_) mm_fu x3 m2
  unfold fX1_findCompanies_L8
  refine gx_iload_n X 8 9 2 dX1_findCompanies_8 rfl rfl rfl ?_
  refine gx_aload_n X 9 10 0 dX1_findCompanies_9 rfl rfl rfl ?_
  refine gx_getI X 10 13 44 (by decide) rfl rfl fg_X1_27 dX1_findCompanies_10 rfl ?_
  refine gx_icmp_ge X 13 29 16 dX1_findCompanies_13 rfl rfl ?_ ?_
  · refine gx_sub [0, 1] rfl ?_
    exact hk_29 m27
  refine gx_aload_n X 16 17 0 dX1_findCompanies_16 rfl rfl rfl ?_
  refine gx_getR X 17 20 44 (by decide) rfl rfl fg_X1_18 dX1_findCompanies_17 rfl ?_
  refine gx_iload_n X 20 21 2 dX1_findCompanies_20 rfl rfl rfl ?_
  refine gx_iconst X 21 22 (0) dX1_findCompanies_21 rfl ci_0 ?_
  refine gx_iastore X 22 23 47 (by decide) rfl dX1_findCompanies_22 rfl (fun m28 => ?_)
  refine gx_iinc X 23 26 2 (1) (fun x29 => [(3, .int x29), (0, .ref (adr 44)), (1, .ref (adr 30))]) dX1_findCompanies_23 rfl rfl ci_1 (by decide) (fun _ => rfl) (fun x29 => ?_)
  refine gx_goto X 26 8 dX1_findCompanies_26 rfl ?_
  refine gx_sub [1, 2, 0] rfl ?_
  exact hr_8 x29 m28
def fX1_findRow_L47 (a3 : Int32) (k_81 : Mm → Aa) (rec_47 : Int32 → Mm → Aa) (x17 : Int32) (m18 : Mm) : Aa := if (m18 44 0) ≤ x17 then (k_81 m18) else (mm_ck x17 6 (mm_ck (m18 47 x17.toNatClampNeg) 10 (mm_lt (mm_wr m18 ((34 + (m18 47 x17.toNatClampNeg).toNatClampNeg)) 0 (x17 * a3)) (fun (m20 : Mm) => mm_lt (x17 + 1) (fun (x21 : Int32) => rec_47 x21 m20)))))
def fX1_findRow_L36 (a3 : Int32) (k_100 : Mm → Aa) (k_93 : Mm → Aa) (rec_36 : Int32 → Mm → Aa) (x8 : Int32) (m9 : Mm) : Aa := if 1000 ≤ x8 then (k_100 m9) else (mm_lt 0 (fun (x10 : Int32) => mm_lt (fun (m11 : Mm) => mm_cl (fX1_keepIfBetter m11) (fun (x12 : Int32) (m13 : Mm) => mm_cl (fX1_makeNextRow m13) (fun (x14 : Int32) (m15 : Mm) => if x14 = 0 then (k_93 m15) else (mm_lt (x8 + 1) (fun (x16 : Int32) => rec_36 x16 m15))))) (fun (k_81 : Mm → Aa) => mm_lk (fun (_ : Int32) (_ : Mm) => (none : Aa)) (fX1_findRow_L47 a3 k_81) mm_fu x10 m9)))
def fX1_findRow_L9 (k_33 : Mm → Aa) (rec_9 : Int32 → Mm → Aa) (x22 : Int32) (m23 : Mm) : Aa := if (m23 44 0) ≤ x22 then (k_33 m23) else (mm_ck x22 6 (mm_lt (mm_wr m23 47 x22.toNatClampNeg x22) (fun (m24 : Mm) => mm_lt (x22 + 1) (fun (x25 : Int32) => rec_9 x25 m24))))
def fX1_findRow (a3 : Int32) (μ : Mm) : Aa := mm_cl (fX1_begin μ) (fun (x1 : Int32) (m2 : Mm) => mm_lt 0 (fun (x3 : Int32) => mm_lt (fun (m4 : Mm) => mm_lt 0 (fun (x5 : Int32) => mm_lt (fun (m6 : Mm) => some (0, m6)) (fun (k_100 : Mm → Aa) => mm_lt (fun (m7 : Mm) => some (0, m7)) (fun (k_93 : Mm → Aa) => mm_lk (fun (_ : Int32) (_ : Mm) => (none : Aa)) (fX1_findRow_L36 a3 k_100 k_93) mm_fu x5 m4)))) (fun (k_33 : Mm → Aa) => mm_lk (fun (_ : Int32) (_ : Mm) => (none : Aa)) (fX1_findRow_L9 k_33) mm_fu x3 m2)))
abbrev rX1_findRow : Room := { frames := 6, cells := 0, slots := 0, locals := 133 }
set_option maxRecDepth 100000 in
set_option maxHeartbeats 8000000 in
theorem tX1_findRow {l : Launch} {D : va_G} {cA : Nat → ClassId} {adr : Nat → Nat} {tt sK sV : Nat → Nat} {qv : Value} (hJ : mm_J adr NX) (a3 : Int32) (μ : Mm) : mm_Mv l D cA adr sX NX (mm_SX (mm_A adr NX) tt sK sV qv) yX1_findRow cX1_findRow 6 none rX1_findRow [.ref (adr 44), .ref (adr 30), .ref (adr 1), .int a3] μ (fX1_findRow a3 μ) := by
  refine mm_entryv hJ mm_okX (by decide) (Nat.le_of_ble_eq_true rfl) ⟨rfl, rfl⟩ (fun p e s m below meth c X hr => ?_)
  generalize ([.ref (adr 44), .ref (adr 30), .ref (adr 1), .int a3] : List Value).toArray = args at X ⊢
  refine gx_lv (lv' := [(0, .ref (adr 44)), (1, .ref (adr 30)), (2, .ref (adr 1)), (3, .int a3)]) rfl ?_
  unfold fX1_findRow
  refine gx_aload_n X 0 1 0 dX1_findRow_0 rfl rfl rfl ?_
  refine gx_aload_n X 1 2 1 dX1_findRow_1 rfl rfl rfl ?_
  refine gx_aload_n X 2 3 2 dX1_findRow_2 rfl rfl rfl ?_
  refine gx_callvV X 3 6 44 (rest := []) (As := [.ref (adr 30), .ref (adr 1)]) (tX1_begin hJ μ) (by decide) rfl rfl wc_X1_begin wl_X1_31 wi_X1_begin ws_X1_begin wn_X1 rfl hd_X1_begin ⟨Nat.le_of_ble_eq_true rfl, Nat.le_of_ble_eq_true rfl⟩ ⟨rfl, rfl⟩ rfl rfl (Nat.le_of_ble_eq_true rfl) dX1_findRow_3 rfl (fun x1 m2 => ?_)
  refine gx_iconst X 6 7 (0) dX1_findRow_6 rfl ci_0 ?_
  refine gx_istore X 7 9 (fun x3 => [(4, .int x3), (0, .ref (adr 44)), (1, .ref (adr 30)), (2, .ref (adr 1)), (3, .int a3)]) dX1_findRow_7 rfl (by decide) (fun _ => rfl) (fun x3 => ?_)
  refine gx_jn (fun (k : Mm → Aa) => ∀ (m4 : Mm), mm_G p l e rX1_findRow s m args below meth c 6 D cA adr sX NX (mm_Qv D cA adr sX NX) m4 33 [(0, .ref (adr 44)), (1, .ref (adr 30)), (3, .int a3)] [] (k m4)) ?_ (fun k_33 hk_33 => ?_)
  · intro m4
    refine gx_iconst X 33 34 (0) dX1_findRow_33 rfl ci_0 ?_
    refine gx_istore X 34 36 (fun x5 => [(4, .int x5), (0, .ref (adr 44)), (1, .ref (adr 30)), (3, .int a3)]) dX1_findRow_34 rfl (by decide) (fun _ => rfl) (fun x5 => ?_)
    refine gx_jn (fun (k : Mm → Aa) => ∀ (m6 : Mm), mm_G p l e rX1_findRow s m args below meth c 6 D cA adr sX NX (mm_Qv D cA adr sX NX) m6 100 [] [] (k m6)) ?_ (fun k_100 hk_100 => ?_)
    · intro m6
      exact gx_vret X 100 hr dX1_findRow_100
    refine gx_jn (fun (k : Mm → Aa) => ∀ (m7 : Mm), mm_G p l e rX1_findRow s m args below meth c 6 D cA adr sX NX (mm_Qv D cA adr sX NX) m7 93 [] [] (k m7)) ?_ (fun k_93 hk_93 => ?_)
    · intro m7
      exact gx_vret X 93 hr dX1_findRow_93
    refine gx_sub [1, 2, 3, 0] rfl ?_
    refine mm_lk_ind (fun (rec : Int32 → Mm → Aa) => ∀ (x8 : Int32) (m9 : Mm), mm_G p l e rX1_findRow s m args below meth c 6 D cA adr sX NX (mm_Qv D cA adr sX NX) m9 36 [(0, .ref (adr 44)), (1, .ref (adr 30)), (3, .int a3), (4, .int x8)] [] (rec x8 m9)) (fun _ _ => gx_none) (fun rec_36 hr_36 x8 m9 => ?_) mm_fu x5 m4
    unfold fX1_findRow_L36
    refine gx_iload X 36 38 3 dX1_findRow_36 rfl rfl ?_
    refine gx_sipush X 38 41 (1000) dX1_findRow_38 rfl cs_1000 ?_
    refine gx_icmp_ge X 41 100 44 dX1_findRow_41 rfl rfl ?_ ?_
    · refine gx_sub [] rfl ?_
      exact hk_100 m9
    refine gx_iconst X 44 45 (0) dX1_findRow_44 rfl ci_0 ?_
    refine gx_istore X 45 47 (fun x10 => [(5, .int x10), (0, .ref (adr 44)), (1, .ref (adr 30)), (3, .int a3), (4, .int x8)]) dX1_findRow_45 rfl (by decide) (fun _ => rfl) (fun x10 => ?_)
    refine gx_jn (fun (k : Mm → Aa) => ∀ (m11 : Mm), mm_G p l e rX1_findRow s m args below meth c 6 D cA adr sX NX (mm_Qv D cA adr sX NX) m11 81 [(0, .ref (adr 44)), (1, .ref (adr 30)), (3, .int a3), (4, .int x8)] [] (k m11)) ?_ (fun k_81 hk_81 => ?_)
    · intro m11
      refine gx_aload_n X 81 82 0 dX1_findRow_81 rfl rfl rfl ?_
      refine gx_aload_n X 82 83 1 dX1_findRow_82 rfl rfl rfl ?_
      refine gx_callvV X 83 86 44 (rest := []) (As := [.ref (adr 30)]) (tX1_keepIfBetter hJ m11) (by decide) rfl rfl wc_X1_keepIfBetter wl_X1_52 wi_X1_keepIfBetter ws_X1_keepIfBetter wn_X1 rfl hd_X1_keepIfBetter ⟨Nat.le_of_ble_eq_true rfl, Nat.le_of_ble_eq_true rfl⟩ ⟨rfl, rfl⟩ rfl rfl (Nat.le_of_ble_eq_true rfl) dX1_findRow_83 rfl (fun x12 m13 => ?_)
      refine gx_aload_n X 86 87 0 dX1_findRow_86 rfl rfl rfl ?_
      refine gx_calliV X 87 90 44 (rest := []) (As := []) (tX1_makeNextRow hJ m13) (by decide) rfl rfl wc_X1_makeNextRow wl_X1_63 wi_X1_makeNextRow ws_X1_makeNextRow wn_X1 rfl hd_X1_makeNextRow ⟨Nat.le_of_ble_eq_true rfl, Nat.le_of_ble_eq_true rfl⟩ ⟨rfl, rfl⟩ rfl rfl (Nat.le_of_ble_eq_true rfl) dX1_findRow_87 rfl (fun x14 m15 => ?_)
      refine gx_if_ne X 90 94 93 dX1_findRow_90 rfl rfl ?_ ?_
      · refine gx_iinc X 94 97 3 (1) (fun x16 => [(4, .int x16), (0, .ref (adr 44)), (1, .ref (adr 30)), (3, .int a3)]) dX1_findRow_94 rfl rfl ci_1 (by decide) (fun _ => rfl) (fun x16 => ?_)
        refine gx_goto X 97 36 dX1_findRow_97 rfl ?_
        refine gx_sub [1, 2, 3, 0] rfl ?_
        exact hr_36 x16 m15
      refine gx_sub [] rfl ?_
      exact hk_93 m15
    refine gx_sub [1, 2, 3, 4, 0] rfl ?_
    refine mm_lk_ind (fun (rec : Int32 → Mm → Aa) => ∀ (x17 : Int32) (m18 : Mm), mm_G p l e rX1_findRow s m args below meth c 6 D cA adr sX NX (mm_Qv D cA adr sX NX) m18 47 [(0, .ref (adr 44)), (1, .ref (adr 30)), (3, .int a3), (4, .int x8), (5, .int x17)] [] (rec x17 m18)) (fun _ _ => gx_none) (fun rec_47 hr_47 x17 m18 => ?_) mm_fu x10 m9
    unfold fX1_findRow_L47
    refine gx_iload X 47 49 4 dX1_findRow_47 rfl rfl ?_
    refine gx_aload_n X 49 50 0 dX1_findRow_49 rfl rfl rfl ?_
    refine gx_getI X 50 53 44 (by decide) rfl rfl fg_X1_27 dX1_findRow_50 rfl ?_
    refine gx_icmp_ge X 53 81 56 dX1_findRow_53 rfl rfl ?_ ?_
    · refine gx_sub [0, 1, 2, 3] rfl ?_
      exact hk_81 m18
    refine gx_aload_n X 56 57 1 dX1_findRow_56 rfl rfl rfl ?_
    refine gx_getR X 57 60 30 (by decide) rfl rfl fg_X1_35 dX1_findRow_57 rfl ?_
    refine gx_aload_n X 60 61 0 dX1_findRow_60 rfl rfl rfl ?_
    refine gx_getR X 61 64 44 (by decide) rfl rfl fg_X1_18 dX1_findRow_61 rfl ?_
    refine gx_iload X 64 66 4 dX1_findRow_64 rfl rfl ?_
    refine gx_iaload X 66 67 47 (by decide) rfl dX1_findRow_66 rfl ?_
    refine gx_aaload X 67 68 31 (by decide) rfl rfl rfl dX1_findRow_67 rfl (fun h19 => ?_)
    refine gx_iload X 68 70 4 dX1_findRow_68 rfl rfl ?_
    refine gx_iload_n X 70 71 2 dX1_findRow_70 rfl rfl rfl ?_
    refine gx_imul X 71 72 dX1_findRow_71 rfl ?_
    refine gx_putI X 72 75 ((34 + (m18 47 x17.toNatClampNeg).toNatClampNeg)) (sX_wl h19) (sX_w h19) rfl fp_X1_60 dX1_findRow_72 rfl (fun m20 => ?_)
    refine gx_iinc X 75 78 4 (1) (fun x21 => [(5, .int x21), (0, .ref (adr 44)), (1, .ref (adr 30)), (3, .int a3), (4, .int x8)]) dX1_findRow_75 rfl rfl ci_1 (by decide) (fun _ => rfl) (fun x21 => ?_)
    refine gx_goto X 78 47 dX1_findRow_78 rfl ?_
    refine gx_sub [1, 2, 3, 4, 0] rfl ?_
    exact hr_47 x21 m20
  refine gx_sub [1, 2, 4, 0] rfl ?_
  refine mm_lk_ind (fun (rec : Int32 → Mm → Aa) => ∀ (x22 : Int32) (m23 : Mm), mm_G p l e rX1_findRow s m args below meth c 6 D cA adr sX NX (mm_Qv D cA adr sX NX) m23 9 [(0, .ref (adr 44)), (1, .ref (adr 30)), (3, .int a3), (4, .int x22)] [] (rec x22 m23)) (fun _ _ => gx_none) (fun rec_9 hr_9 x22 m23 => ?_) mm_fu x3 m2
  unfold fX1_findRow_L9
  refine gx_iload X 9 11 3 dX1_findRow_9 rfl rfl ?_
  refine gx_aload_n X 11 12 0 dX1_findRow_11 rfl rfl rfl ?_
  refine gx_getI X 12 15 44 (by decide) rfl rfl fg_X1_27 dX1_findRow_12 rfl ?_
  refine gx_icmp_ge X 15 33 18 dX1_findRow_15 rfl rfl ?_ ?_
  · refine gx_sub [0, 1, 2] rfl ?_
    exact hk_33 m23
  refine gx_aload_n X 18 19 0 dX1_findRow_18 rfl rfl rfl ?_
  refine gx_getR X 19 22 44 (by decide) rfl rfl fg_X1_18 dX1_findRow_19 rfl ?_
  refine gx_iload X 22 24 3 dX1_findRow_22 rfl rfl ?_
  refine gx_iload X 24 26 3 dX1_findRow_24 rfl rfl ?_
  refine gx_iastore X 26 27 47 (by decide) rfl dX1_findRow_26 rfl (fun m24 => ?_)
  refine gx_iinc X 27 30 3 (1) (fun x25 => [(4, .int x25), (0, .ref (adr 44)), (1, .ref (adr 30)), (3, .int a3)]) dX1_findRow_27 rfl rfl ci_1 (by decide) (fun _ => rfl) (fun x25 => ?_)
  refine gx_goto X 30 9 dX1_findRow_30 rfl ?_
  refine gx_sub [1, 2, 3, 0] rfl ?_
  exact hr_9 x25 m24
def fX6_enlistAll_L17 (a2 : Int32) (a3 : Int32) (k1 : Nat) (n1 : Nat) (k_43 : Mm → Aa) (rec_17 : Int32 → Mm → Aa) (x5 : Int32) (m6 : Mm) : Aa := if a3 ≤ x5 then (k_43 m6) else (mm_cl (fX3_enlist k1 n1 (a2 + (x5 * 5)) m6) (fun (x7 : Int32) (m8 : Mm) => mm_lt (x5 + 1) (fun (x9 : Int32) => rec_17 x9 m8)))
def fX6_enlistAll (k1 : Nat) (n1 : Nat) (a2 : Int32) (a3 : Int32) (μ : Mm) : Aa := mm_cl (fX3_hasRoom a3 μ) (fun (x1 : Int32) (m2 : Mm) => if x1 = 0 then (some ((-3), m2)) else (mm_lt 0 (fun (x3 : Int32) => mm_lt (fun (m4 : Mm) => some (a3, m4)) (fun (k_43 : Mm → Aa) => mm_lk (fun (_ : Int32) (_ : Mm) => (none : Aa)) (fX6_enlistAll_L17 a2 a3 k1 n1 k_43) mm_fu x3 m2))))
abbrev rX6_enlistAll : Room := { frames := 2, cells := 0, slots := 0, locals := 48 }
set_option maxRecDepth 100000 in
set_option maxHeartbeats 8000000 in
theorem tX6_enlistAll {l : Launch} {D : va_G} {cA : Nat → ClassId} {adr : Nat → Nat} {tt sK sV : Nat → Nat} {qv : Value} (hJ : mm_J adr NX) (k1 : Nat) (n1 : Nat) (a2 : Int32) (a3 : Int32) (hk1 : k1 < NX) (hs1 : sX k1 = .inl n1) (μ : Mm) : mm_Mi l D cA adr sX NX (mm_SX (mm_A adr NX) tt sK sV qv) yX6_enlistAll cX6_enlistAll 5 (some .int) rX6_enlistAll [.ref (adr 0), .ref (adr k1), .int a2, .int a3] μ (fX6_enlistAll k1 n1 a2 a3 μ) := by
  refine mm_entryi hJ mm_okX (by decide) (Nat.le_of_ble_eq_true rfl) ⟨rfl, rfl⟩ (fun p e s m below meth c X hr => ?_)
  generalize ([.ref (adr 0), .ref (adr k1), .int a2, .int a3] : List Value).toArray = args at X ⊢
  refine gx_lv (lv' := [(0, .ref (adr 0)), (1, .ref (adr k1)), (2, .int a2), (3, .int a3)]) rfl ?_
  unfold fX6_enlistAll
  refine gx_aload_n X 0 1 0 dX6_enlistAll_0 rfl rfl rfl ?_
  refine gx_getR X 1 4 0 (by decide) rfl rfl fg_X6_10 dX6_enlistAll_1 rfl ?_
  refine gx_iload_n X 4 5 3 dX6_enlistAll_4 rfl rfl rfl ?_
  refine gx_calliV X 5 8 1 (rest := []) (As := [.int a3]) (tX3_hasRoom hJ a3 μ) (by decide) rfl rfl wc_X3_hasRoom wl_X6_72 wi_X3_hasRoom ws_X3_hasRoom wn_X3 rfl hd_X3_hasRoom ⟨Nat.le_of_ble_eq_true rfl, Nat.le_of_ble_eq_true rfl⟩ ⟨rfl, rfl⟩ rfl rfl (Nat.le_of_ble_eq_true rfl) dX6_enlistAll_5 rfl (fun x1 m2 => ?_)
  refine gx_if_ne X 8 14 11 dX6_enlistAll_8 rfl rfl ?_ ?_
  · refine gx_iconst X 14 15 (0) dX6_enlistAll_14 rfl ci_0 ?_
    refine gx_istore X 15 17 (fun x3 => [(4, .int x3), (0, .ref (adr 0)), (1, .ref (adr k1)), (2, .int a2), (3, .int a3)]) dX6_enlistAll_15 rfl (by decide) (fun _ => rfl) (fun x3 => ?_)
    refine gx_jn (fun (k : Mm → Aa) => ∀ (m4 : Mm), mm_G p l e rX6_enlistAll s m args below meth c 5 D cA adr sX NX (mm_Qi D cA adr sX NX) m4 43 [(3, .int a3)] [] (k m4)) ?_ (fun k_43 hk_43 => ?_)
    · intro m4
      refine gx_iload_n X 43 44 0 dX6_enlistAll_43 rfl rfl rfl ?_
      exact gx_iret X 44 hr dX6_enlistAll_44
    refine gx_sub [1, 2, 3, 4, 0] rfl ?_
    refine mm_lk_ind (fun (rec : Int32 → Mm → Aa) => ∀ (x5 : Int32) (m6 : Mm), mm_G p l e rX6_enlistAll s m args below meth c 5 D cA adr sX NX (mm_Qi D cA adr sX NX) m6 17 [(0, .ref (adr 0)), (1, .ref (adr k1)), (2, .int a2), (3, .int a3), (4, .int x5)] [] (rec x5 m6)) (fun _ _ => gx_none) (fun rec_17 hr_17 x5 m6 => ?_) mm_fu x3 m2
    unfold fX6_enlistAll_L17
    refine gx_iload X 17 19 4 dX6_enlistAll_17 rfl rfl ?_
    refine gx_iload_n X 19 20 3 dX6_enlistAll_19 rfl rfl rfl ?_
    refine gx_icmp_ge X 20 43 23 dX6_enlistAll_20 rfl rfl ?_ ?_
    · refine gx_sub [3] rfl ?_
      exact hk_43 m6
    refine gx_aload_n X 23 24 0 dX6_enlistAll_23 rfl rfl rfl ?_
    refine gx_getR X 24 27 0 (by decide) rfl rfl fg_X6_10 dX6_enlistAll_24 rfl ?_
    refine gx_aload_n X 27 28 1 dX6_enlistAll_27 rfl rfl rfl ?_
    refine gx_iload_n X 28 29 2 dX6_enlistAll_28 rfl rfl rfl ?_
    refine gx_iload X 29 31 4 dX6_enlistAll_29 rfl rfl ?_
    refine gx_iconst X 31 32 (5) dX6_enlistAll_31 rfl ci_5 ?_
    refine gx_imul X 32 33 dX6_enlistAll_32 rfl ?_
    refine gx_iadd X 33 34 dX6_enlistAll_33 rfl ?_
    refine gx_callvV X 34 37 1 (rest := []) (As := [.ref (adr k1), .int (a2 + (x5 * 5))]) (tX3_enlist hJ k1 n1 (a2 + (x5 * 5)) hk1 hs1 m6) (by decide) rfl rfl wc_X3_enlist wl_X6_76 wi_X3_enlist ws_X3_enlist wn_X3 rfl hd_X3_enlist ⟨Nat.le_of_ble_eq_true rfl, Nat.le_of_ble_eq_true rfl⟩ ⟨rfl, rfl⟩ rfl rfl (Nat.le_of_ble_eq_true rfl) dX6_enlistAll_34 rfl (fun x7 m8 => ?_)
    refine gx_iinc X 37 40 4 (1) (fun x9 => [(4, .int x9), (0, .ref (adr 0)), (1, .ref (adr k1)), (2, .int a2), (3, .int a3)]) dX6_enlistAll_37 rfl rfl ci_1 (by decide) (fun _ => rfl) (fun x9 => ?_)
    refine gx_goto X 40 17 dX6_enlistAll_40 rfl ?_
    refine gx_sub [1, 2, 3, 4, 0] rfl ?_
    exact hr_17 x9 m8
  refine gx_bipush X 11 13 (-3) dX6_enlistAll_11 rfl cb_m3 ?_
  exact gx_iret X 13 hr dX6_enlistAll_13
