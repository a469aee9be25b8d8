def fX7_readPeople_L7 (k_23 : Mm → Aa) (k_41 : Mm → Aa) (k_54 : Mm → Aa) (k_72 : Mm → Aa) (rec_7 : Int32 → Mm → Aa) (x7 : Int32) (m8 : Mm) : Aa := if 6 ≤ x7 then (k_72 m8) else (mm_cl (fX7_readPerson (5 * x7) m8) (fun (x9 : Int32) (m10 : Mm) => if x9 = 0 then (k_23 m10) else (mm_lt (mm_wr m10 0 7 (x7 + 1)) (fun (m11 : Mm) => mm_cl (fX7_nextByte m11) (fun (x12 : Int32) (m13 : Mm) => mm_lt x12 (fun (x14 : Int32) => if 0 ≤ x14 then (if x14 = 59 then (if x7 = 5 then (k_54 m13) else (mm_lt (mm_wr m13 0 6 ((m13 0 6) + 1)) (fun (m15 : Mm) => mm_lt (x7 + 1) (fun (x16 : Int32) => rec_7 x16 m15)))) else (k_54 m13)) else (k_41 m13)))))))
def fX7_readPeople (μ : Mm) : Aa := mm_lt (mm_wr μ 0 6 0) (fun (m1 : Mm) => mm_lt 0 (fun (x2 : Int32) => mm_lt (fun (m3 : Mm) => mm_bo 0 (some (0, m3))) (fun (k_72 : Mm → Aa) => mm_lt (fun (m4 : Mm) => mm_bo 0 (some (0, m4))) (fun (k_54 : Mm → Aa) => mm_lt (fun (m5 : Mm) => mm_bo 1 (some (1, m5))) (fun (k_41 : Mm → Aa) => mm_lt (fun (m6 : Mm) => mm_bo 0 (some (0, m6))) (fun (k_23 : Mm → Aa) => mm_lk (fun (_ : Int32) (_ : Mm) => (none : Aa)) (fX7_readPeople_L7 k_23 k_41 k_54 k_72) mm_fu x2 m1))))))
abbrev rX7_readPeople : Room := { frames := 3, cells := 0, slots := 0, locals := 71 }
set_option maxRecDepth 100000 in
set_option maxHeartbeats 8000000 in
theorem tX7_readPeople {l : Launch} {D : va_G} {cA : Nat → ClassId} {adr : Nat → Nat} (hJ : mm_J adr NM) (μ : Mm) : mm_Mi l D cA adr sM NM mm_SM yX7_readPeople cX7_readPeople 3 (some .boolean) rX7_readPeople [.ref (adr 0)] μ (fX7_readPeople μ) := by
  refine mm_entryi hJ mm_okM (by decide) (Nat.le_of_ble_eq_true rfl) ⟨rfl, rfl⟩ (fun p e s m below meth c X hr => ?_)
  generalize ([.ref (adr 0)] : List Value).toArray = args at X ⊢
  refine gx_lv (lv' := [(0, .ref (adr 0))]) rfl ?_
  unfold fX7_readPeople
  refine gx_aload_n X 0 1 0 dX7_readPeople_0 rfl rfl rfl ?_
  refine gx_iconst X 1 2 (0) dX7_readPeople_1 rfl ci_0 ?_
  refine gx_putI X 2 5 0 (by decide) rfl rfl fp_X7_158 dX7_readPeople_2 rfl (fun m1 => ?_)
  refine gx_iconst X 5 6 (0) dX7_readPeople_5 rfl ci_0 ?_
  refine gx_istore_n X 6 7 (fun x2 => [(1, .int x2), (0, .ref (adr 0))]) dX7_readPeople_6 rfl rfl (by decide) (fun _ => rfl) (fun x2 => ?_)
  refine gx_jn (fun (k : Mm → Aa) => ∀ (m3 : Mm), mm_G p l e rX7_readPeople s m args below meth c 3 D cA adr sM NM (mm_Qi D cA adr sM NM) m3 72 [] [] (k m3)) ?_ (fun k_72 hk_72 => ?_)
  · intro m3
    refine gx_iconst X 72 73 (0) dX7_readPeople_72 rfl ci_0 ?_
    exact gx_zret X 73 hr dX7_readPeople_73
  refine gx_jn (fun (k : Mm → Aa) => ∀ (m4 : Mm), mm_G p l e rX7_readPeople s m args below meth c 3 D cA adr sM NM (mm_Qi D cA adr sM NM) m4 54 [] [] (k m4)) ?_ (fun k_54 hk_54 => ?_)
  · intro m4
    refine gx_iconst X 54 55 (0) dX7_readPeople_54 rfl ci_0 ?_
    exact gx_zret X 55 hr dX7_readPeople_55
  refine gx_jn (fun (k : Mm → Aa) => ∀ (m5 : Mm), mm_G p l e rX7_readPeople s m args below meth c 3 D cA adr sM NM (mm_Qi D cA adr sM NM) m5 41 [] [] (k m5)) ?_ (fun k_41 hk_41 => ?_)
  · intro m5
    refine gx_iconst X 41 42 (1) dX7_readPeople_41 rfl ci_1 ?_
    exact gx_zret X 42 hr dX7_readPeople_42
  refine gx_jn (fun (k : Mm → Aa) => ∀ (m6 : Mm), mm_G p l e rX7_readPeople s m args below meth c 3 D cA adr sM NM (mm_Qi D cA adr sM NM) m6 23 [] [] (k m6)) ?_ (fun k_23 hk_23 => ?_)
  · intro m6
    refine gx_iconst X 23 24 (0) dX7_readPeople_23 rfl ci_0 ?_
    exact gx_zret X 24 hr dX7_readPeople_24
  refine gx_sub [1, 0] rfl ?_
  refine mm_lk_ind (fun (rec : Int32 → Mm → Aa) => ∀ (x7 : Int32) (m8 : Mm), mm_G p l e rX7_readPeople s m args below meth c 3 D cA adr sM NM (mm_Qi D cA adr sM NM) m8 7 [(0, .ref (adr 0)), (1, .int x7)] [] (rec x7 m8)) (fun _ _ => gx_none) (fun rec_7 hr_7 x7 m8 => ?_) mm_fu x2 m1
  unfold fX7_readPeople_L7
  refine gx_iload_n X 7 8 1 dX7_readPeople_7 rfl rfl rfl ?_
  refine gx_bipush X 8 10 (6) dX7_readPeople_8 rfl cb_6 ?_
  refine gx_icmp_ge X 10 72 13 dX7_readPeople_10 rfl rfl ?_ ?_
  · refine gx_sub [] rfl ?_
    exact hk_72 m8
  refine gx_aload_n X 13 14 0 dX7_readPeople_13 rfl rfl rfl ?_
  refine gx_iconst X 14 15 (5) dX7_readPeople_14 rfl ci_5 ?_
  refine gx_iload_n X 15 16 1 dX7_readPeople_15 rfl rfl rfl ?_
  refine gx_imul X 16 17 dX7_readPeople_16 rfl ?_
  refine gx_calliV X 17 20 0 (rest := []) (As := [.int (5 * x7)]) (tX7_readPerson hJ (5 * x7) m8) (by decide) rfl rfl wc_X7_readPerson wl_X7_182 wi_X7_readPerson ws_X7_readPerson wn_X7 rfl hd_X7_readPerson ⟨Nat.le_of_ble_eq_true rfl, Nat.le_of_ble_eq_true rfl⟩ ⟨rfl, rfl⟩ rfl rfl (Nat.le_of_ble_eq_true rfl) dX7_readPeople_17 rfl (fun x9 m10 => ?_)
  refine gx_if_ne X 20 25 23 dX7_readPeople_20 rfl rfl ?_ ?_
  · refine gx_aload_n X 25 26 0 dX7_readPeople_25 rfl rfl rfl ?_
    refine gx_iload_n X 26 27 1 dX7_readPeople_26 rfl rfl rfl ?_
    refine gx_iconst X 27 28 (1) dX7_readPeople_27 rfl ci_1 ?_
    refine gx_iadd X 28 29 dX7_readPeople_28 rfl ?_
    refine gx_putI X 29 32 0 (by decide) rfl rfl fp_X7_169 dX7_readPeople_29 rfl (fun m11 => ?_)
    refine gx_aload_n X 32 33 0 dX7_readPeople_32 rfl rfl rfl ?_
    refine gx_calliV X 33 36 0 (rest := []) (As := []) (tX7_nextByte hJ m11) (by decide) rfl rfl wc_X7_nextByte wl_X7_161 wi_X7_nextByte ws_X7_nextByte wn_X7 rfl hd_X7_nextByte ⟨Nat.le_of_ble_eq_true rfl, Nat.le_of_ble_eq_true rfl⟩ ⟨rfl, rfl⟩ rfl rfl (Nat.le_of_ble_eq_true rfl) dX7_readPeople_33 rfl (fun x12 m13 => ?_)
    refine gx_istore_n X 36 37 (fun x14 => [(2, .int x14), (0, .ref (adr 0)), (1, .int x7)]) dX7_readPeople_36 rfl rfl (by decide) (fun _ => rfl) (fun x14 => ?_)
    refine gx_iload_n X 37 38 0 dX7_readPeople_37 rfl rfl rfl ?_
    refine gx_if_ge X 38 43 41 dX7_readPeople_38 rfl rfl ?_ ?_
    · refine gx_iload_n X 43 44 0 dX7_readPeople_43 rfl rfl rfl ?_
      refine gx_bipush X 44 46 (59) dX7_readPeople_44 rfl cb_59 ?_
      refine gx_icmp_ne X 46 54 49 dX7_readPeople_46 rfl rfl ?_ ?_
      · refine gx_sub [] rfl ?_
        exact hk_54 m13
      refine gx_iload_n X 49 50 2 dX7_readPeople_49 rfl rfl rfl ?_
      refine gx_iconst X 50 51 (5) dX7_readPeople_50 rfl ci_5 ?_
      refine gx_icmp_ne X 51 56 54 dX7_readPeople_51 rfl rfl ?_ ?_
      · refine gx_aload_n X 56 57 1 dX7_readPeople_56 rfl rfl rfl ?_
        refine gx_dup X 57 58 dX7_readPeople_57 rfl rfl ?_
        refine gx_getI X 58 61 0 (by decide) rfl rfl fg_X7_158 dX7_readPeople_58 rfl ?_
        refine gx_iconst X 61 62 (1) dX7_readPeople_61 rfl ci_1 ?_
        refine gx_iadd X 62 63 dX7_readPeople_62 rfl ?_
        refine gx_putI X 63 66 0 (by decide) rfl rfl fp_X7_158 dX7_readPeople_63 rfl (fun m15 => ?_)
        refine gx_iinc X 66 69 2 (1) (fun x16 => [(1, .int x16), (2, .int x14), (0, .ref (adr 0))]) dX7_readPeople_66 rfl rfl ci_1 (by decide) (fun _ => rfl) (fun x16 => ?_)
        refine gx_goto X 69 7 dX7_readPeople_69 rfl ?_
        refine gx_sub [2, 0] rfl ?_
        exact hr_7 x16 m15
      refine gx_sub [] rfl ?_
      exact hk_54 m13
    refine gx_sub [] rfl ?_
    exact hk_41 m13
  refine gx_sub [] rfl ?_
  exact hk_23 m10
def fX7_addRead_L2 (k_68 : Mm → Aa) (rec_2 : Int32 → Mm → Aa) (x3 : Int32) (m4 : Mm) : Aa := if (m4 0 7) ≤ x3 then (k_68 m4) else (mm_ck (5 * x3) 30 (mm_ck ((5 * x3) + 1) 30 (mm_ck ((5 * x3) + 2) 30 (mm_ck ((5 * x3) + 3) 30 (mm_ck ((5 * x3) + 4) 30 (mm_cl (fX7_add (m4 4 (5 * x3).toNatClampNeg) (m4 4 ((5 * x3) + 1).toNatClampNeg) (m4 4 ((5 * x3) + 2).toNatClampNeg) (m4 4 ((5 * x3) + 3).toNatClampNeg) (m4 4 ((5 * x3) + 4).toNatClampNeg) m4) (fun (x5 : Int32) (m6 : Mm) => mm_lt (x3 + 1) (fun (x7 : Int32) => rec_2 x7 m6))))))))
def fX7_addRead (μ : Mm) : Aa := mm_lt 0 (fun (x1 : Int32) => mm_lt (fun (m2 : Mm) => some (0, m2)) (fun (k_68 : Mm → Aa) => mm_lk (fun (_ : Int32) (_ : Mm) => (none : Aa)) (fX7_addRead_L2 k_68) mm_fu x1 μ))
abbrev rX7_addRead : Room := { frames := 1, cells := 0, slots := 0, locals := 26 }
set_option maxRecDepth 100000 in
set_option maxHeartbeats 8000000 in
theorem tX7_addRead {l : Launch} {D : va_G} {cA : Nat → ClassId} {adr : Nat → Nat} (hJ : mm_J adr NM) (μ : Mm) : mm_Mv l D cA adr sM NM mm_SM yX7_addRead cX7_addRead 2 none rX7_addRead [.ref (adr 0)] μ (fX7_addRead μ) := by
  refine mm_entryv hJ mm_okM (by decide) (Nat.le_of_ble_eq_true rfl) ⟨rfl, rfl⟩ (fun p e s m below meth c X hr => ?_)
  generalize ([.ref (adr 0)] : List Value).toArray = args at X ⊢
  refine gx_lv (lv' := [(0, .ref (adr 0))]) rfl ?_
  unfold fX7_addRead
  refine gx_iconst X 0 1 (0) dX7_addRead_0 rfl ci_0 ?_
  refine gx_istore_n X 1 2 (fun x1 => [(1, .int x1), (0, .ref (adr 0))]) dX7_addRead_1 rfl rfl (by decide) (fun _ => rfl) (fun x1 => ?_)
  refine gx_jn (fun (k : Mm → Aa) => ∀ (m2 : Mm), mm_G p l e rX7_addRead s m args below meth c 2 D cA adr sM NM (mm_Qv D cA adr sM NM) m2 68 [] [] (k m2)) ?_ (fun k_68 hk_68 => ?_)
  · intro m2
    exact gx_vret X 68 hr dX7_addRead_68
  refine gx_sub [1, 0] rfl ?_
  refine mm_lk_ind (fun (rec : Int32 → Mm → Aa) => ∀ (x3 : Int32) (m4 : Mm), mm_G p l e rX7_addRead s m args below meth c 2 D cA adr sM NM (mm_Qv D cA adr sM NM) m4 2 [(0, .ref (adr 0)), (1, .int x3)] [] (rec x3 m4)) (fun _ _ => gx_none) (fun rec_2 hr_2 x3 m4 => ?_) mm_fu x1 μ
  unfold fX7_addRead_L2
  refine gx_iload_n X 2 3 1 dX7_addRead_2 rfl rfl rfl ?_
  refine gx_aload_n X 3 4 0 dX7_addRead_3 rfl rfl rfl ?_
  refine gx_getI X 4 7 0 (by decide) rfl rfl fg_X7_169 dX7_addRead_4 rfl ?_
  refine gx_icmp_ge X 7 68 10 dX7_addRead_7 rfl rfl ?_ ?_
  · refine gx_sub [] rfl ?_
    exact hk_68 m4
  refine gx_aload_n X 10 11 0 dX7_addRead_10 rfl rfl rfl ?_
  refine gx_aload_n X 11 12 0 dX7_addRead_11 rfl rfl rfl ?_
  refine gx_getR X 12 15 0 (by decide) rfl rfl fg_X7_23 dX7_addRead_12 rfl ?_
  refine gx_iconst X 15 16 (5) dX7_addRead_15 rfl ci_5 ?_
  refine gx_iload_n X 16 17 1 dX7_addRead_16 rfl rfl rfl ?_
  refine gx_imul X 17 18 dX7_addRead_17 rfl ?_
  refine gx_iaload X 18 19 4 (by decide) rfl dX7_addRead_18 rfl ?_
  refine gx_aload_n X 19 20 0 dX7_addRead_19 rfl rfl rfl ?_
  refine gx_getR X 20 23 0 (by decide) rfl rfl fg_X7_23 dX7_addRead_20 rfl ?_
  refine gx_iconst X 23 24 (5) dX7_addRead_23 rfl ci_5 ?_
  refine gx_iload_n X 24 25 1 dX7_addRead_24 rfl rfl rfl ?_
  refine gx_imul X 25 26 dX7_addRead_25 rfl ?_
  refine gx_iconst X 26 27 (1) dX7_addRead_26 rfl ci_1 ?_
  refine gx_iadd X 27 28 dX7_addRead_27 rfl ?_
  refine gx_iaload X 28 29 4 (by decide) rfl dX7_addRead_28 rfl ?_
  refine gx_aload_n X 29 30 0 dX7_addRead_29 rfl rfl rfl ?_
  refine gx_getR X 30 33 0 (by decide) rfl rfl fg_X7_23 dX7_addRead_30 rfl ?_
  refine gx_iconst X 33 34 (5) dX7_addRead_33 rfl ci_5 ?_
  refine gx_iload_n X 34 35 1 dX7_addRead_34 rfl rfl rfl ?_
  refine gx_imul X 35 36 dX7_addRead_35 rfl ?_
  refine gx_iconst X 36 37 (2) dX7_addRead_36 rfl ci_2 ?_
  refine gx_iadd X 37 38 dX7_addRead_37 rfl ?_
  refine gx_iaload X 38 39 4 (by decide) rfl dX7_addRead_38 rfl ?_
  refine gx_aload_n X 39 40 0 dX7_addRead_39 rfl rfl rfl ?_
  refine gx_getR X 40 43 0 (by decide) rfl rfl fg_X7_23 dX7_addRead_40 rfl ?_
  refine gx_iconst X 43 44 (5) dX7_addRead_43 rfl ci_5 ?_
  refine gx_iload_n X 44 45 1 dX7_addRead_44 rfl rfl rfl ?_
  refine gx_imul X 45 46 dX7_addRead_45 rfl ?_
  refine gx_iconst X 46 47 (3) dX7_addRead_46 rfl ci_3 ?_
  refine gx_iadd X 47 48 dX7_addRead_47 rfl ?_
  refine gx_iaload X 48 49 4 (by decide) rfl dX7_addRead_48 rfl ?_
  refine gx_aload_n X 49 50 0 dX7_addRead_49 rfl rfl rfl ?_
  refine gx_getR X 50 53 0 (by decide) rfl rfl fg_X7_23 dX7_addRead_50 rfl ?_
  refine gx_iconst X 53 54 (5) dX7_addRead_53 rfl ci_5 ?_
  refine gx_iload_n X 54 55 1 dX7_addRead_54 rfl rfl rfl ?_
  refine gx_imul X 55 56 dX7_addRead_55 rfl ?_
  refine gx_iconst X 56 57 (4) dX7_addRead_56 rfl ci_4 ?_
  refine gx_iadd X 57 58 dX7_addRead_57 rfl ?_
  refine gx_iaload X 58 59 4 (by decide) rfl dX7_addRead_58 rfl ?_
  refine gx_callvV X 59 62 0 (rest := []) (As := [.int (m4 4 (5 * x3).toNatClampNeg), .int (m4 4 ((5 * x3) + 1).toNatClampNeg), .int (m4 4 ((5 * x3) + 2).toNatClampNeg), .int (m4 4 ((5 * x3) + 3).toNatClampNeg), .int (m4 4 ((5 * x3) + 4).toNatClampNeg)]) (tX7_add hJ (m4 4 (5 * x3).toNatClampNeg) (m4 4 ((5 * x3) + 1).toNatClampNeg) (m4 4 ((5 * x3) + 2).toNatClampNeg) (m4 4 ((5 * x3) + 3).toNatClampNeg) (m4 4 ((5 * x3) + 4).toNatClampNeg) m4) (by decide) rfl rfl wc_X7_add wl_X7_128 wi_X7_add ws_X7_add wn_X7 rfl hd_X7_add ⟨Nat.le_of_ble_eq_true rfl, Nat.le_of_ble_eq_true rfl⟩ ⟨rfl, rfl⟩ rfl rfl (Nat.le_of_ble_eq_true rfl) dX7_addRead_59 rfl (fun x5 m6 => ?_)
  refine gx_iinc X 62 65 1 (1) (fun x7 => [(1, .int x7), (0, .ref (adr 0))]) dX7_addRead_62 rfl rfl ci_1 (by decide) (fun _ => rfl) (fun x7 => ?_)
  refine gx_goto X 65 2 dX7_addRead_65 rfl ?_
  refine gx_sub [1, 0] rfl ?_
  exact hr_2 x7 m6
def fX7_people (μ : Mm) : Aa := mm_cl (fX7_readPeople μ) (fun (x1 : Int32) (m2 : Mm) => mm_lt x1 (fun (x3 : Int32) => mm_lt (fun (m4 : Mm) => mm_lt (mm_wr m4 0 5 0) (fun (m5 : Mm) => if x3 = 0 then (some (((-20)) - (m5 0 6), m5)) else (if ((m5 0 1) + (m5 0 7)) ≤ 10 then (mm_cl (fX7_addRead m5) (fun (x6 : Int32) (m7 : Mm) => some (m7 0 7, m7))) else (some ((-3), m5))))) (fun (k_14 : Mm → Aa) => if x3 = 0 then (mm_cl (fX7_nextByte m2) (fun (x8 : Int32) (m9 : Mm) => k_14 m9)) else (k_14 m2))))
abbrev rX7_people : Room := { frames := 4, cells := 0, slots := 0, locals := 93 }
set_option maxRecDepth 100000 in
set_option maxHeartbeats 8000000 in
theorem tX7_people {l : Launch} {D : va_G} {cA : Nat → ClassId} {adr : Nat → Nat} (hJ : mm_J adr NM) (μ : Mm) : mm_Mi l D cA adr sM NM mm_SM yX7_people cX7_people 2 (some .int) rX7_people [.ref (adr 0)] μ (fX7_people μ) := by
  refine mm_entryi hJ mm_okM (by decide) (Nat.le_of_ble_eq_true rfl) ⟨rfl, rfl⟩ (fun p e s m below meth c X hr => ?_)
  generalize ([.ref (adr 0)] : List Value).toArray = args at X ⊢
  refine gx_lv (lv' := [(0, .ref (adr 0))]) rfl ?_
  unfold fX7_people
  refine gx_aload_n X 0 1 0 dX7_people_0 rfl rfl rfl ?_
  refine gx_calliV X 1 4 0 (rest := []) (As := []) (tX7_readPeople hJ μ) (by decide) rfl rfl wc_X7_readPeople wl_X7_185 wi_X7_readPeople ws_X7_readPeople wn_X7 rfl hd_X7_readPeople ⟨Nat.le_of_ble_eq_true rfl, Nat.le_of_ble_eq_true rfl⟩ ⟨rfl, rfl⟩ rfl rfl (Nat.le_of_ble_eq_true rfl) dX7_people_1 rfl (fun x1 m2 => ?_)
  refine gx_istore_n X 4 5 (fun x3 => [(1, .int x3), (0, .ref (adr 0))]) dX7_people_4 rfl rfl (by decide) (fun _ => rfl) (fun x3 => ?_)
  refine gx_iload_n X 5 6 0 dX7_people_5 rfl rfl rfl ?_
  refine gx_jn (fun (k : Mm → Aa) => ∀ (m4 : Mm), mm_G p l e rX7_people s m args below meth c 2 D cA adr sM NM (mm_Qi D cA adr sM NM) m4 14 [(0, .ref (adr 0)), (1, .int x3)] [] (k m4)) ?_ (fun k_14 hk_14 => ?_)
  · intro m4
    refine gx_aload_n X 14 15 0 dX7_people_14 rfl rfl rfl ?_
    refine gx_iconst X 15 16 (0) dX7_people_15 rfl ci_0 ?_
    refine gx_putI X 16 19 0 (by decide) rfl rfl fp_X7_155 dX7_people_16 rfl (fun m5 => ?_)
    refine gx_iload_n X 19 20 1 dX7_people_19 rfl rfl rfl ?_
    refine gx_if_ne X 20 31 23 dX7_people_20 rfl rfl ?_ ?_
    · refine gx_aload_n X 31 32 0 dX7_people_31 rfl rfl rfl ?_
      refine gx_getI X 32 35 0 (by decide) rfl rfl fg_X7_98 dX7_people_32 rfl ?_
      refine gx_aload_n X 35 36 0 dX7_people_35 rfl rfl rfl ?_
      refine gx_getI X 36 39 0 (by decide) rfl rfl fg_X7_169 dX7_people_36 rfl ?_
      refine gx_iadd X 39 40 dX7_people_39 rfl ?_
      refine gx_bipush X 40 42 (10) dX7_people_40 rfl cb_10 ?_
      refine gx_icmp_le X 42 48 45 dX7_people_42 rfl rfl ?_ ?_
      · refine gx_aload_n X 48 49 0 dX7_people_48 rfl rfl rfl ?_
        refine gx_callvV X 49 52 0 (rest := []) (As := []) (tX7_addRead hJ m5) (by decide) rfl rfl wc_X7_addRead wl_X7_188 wi_X7_addRead ws_X7_addRead wn_X7 rfl hd_X7_addRead ⟨Nat.le_of_ble_eq_true rfl, Nat.le_of_ble_eq_true rfl⟩ ⟨rfl, rfl⟩ rfl rfl (Nat.le_of_ble_eq_true rfl) dX7_people_49 rfl (fun x6 m7 => ?_)
        refine gx_aload_n X 52 53 0 dX7_people_52 rfl rfl rfl ?_
        refine gx_getI X 53 56 0 (by decide) rfl rfl fg_X7_169 dX7_people_53 rfl ?_
        exact gx_iret X 56 hr dX7_people_56
      refine gx_bipush X 45 47 (-3) dX7_people_45 rfl cb_m3 ?_
      exact gx_iret X 47 hr dX7_people_47
    refine gx_bipush X 23 25 (-20) dX7_people_23 rfl cb_m20 ?_
    refine gx_aload_n X 25 26 0 dX7_people_25 rfl rfl rfl ?_
    refine gx_getI X 26 29 0 (by decide) rfl rfl fg_X7_158 dX7_people_26 rfl ?_
    refine gx_isub X 29 30 dX7_people_29 rfl ?_
    exact gx_iret X 30 hr dX7_people_30
  refine gx_if_ne X 6 14 9 dX7_people_6 rfl rfl ?_ ?_
  · refine gx_sub [1, 0] rfl ?_
    exact hk_14 m2
  refine gx_aload_n X 9 10 1 dX7_people_9 rfl rfl rfl ?_
  refine gx_calliV X 10 13 0 (rest := []) (As := []) (tX7_nextByte hJ m2) (by decide) rfl rfl wc_X7_nextByte wl_X7_161 wi_X7_nextByte ws_X7_nextByte wn_X7 rfl hd_X7_nextByte ⟨Nat.le_of_ble_eq_true rfl, Nat.le_of_ble_eq_true rfl⟩ ⟨rfl, rfl⟩ rfl rfl (Nat.le_of_ble_eq_true rfl) dX7_people_10 rfl (fun x8 m9 => ?_)
  refine gx_pop X 13 14 dX7_people_13 rfl rfl ?_
  refine gx_sub [1, 0] rfl ?_
  exact hk_14 m9
def fX7_begin_L58 (k_164 : Mm → Aa) (rec_58 : Int32 → Mm → Aa) (x10 : Int32) (m11 : Mm) : Aa := if (m11 0 1) ≤ x10 then (k_164 m11) else (mm_ck x10 10 (mm_lt (mm_wr m11 5 x10.toNatClampNeg 0) (fun (m12 : Mm) => mm_ck ((7 * x10) + 1) 70 (mm_ck x10 10 (mm_lt (mm_wr m12 6 x10.toNatClampNeg (m12 1 ((7 * x10) + 1).toNatClampNeg)) (fun (m13 : Mm) => mm_ck x10 10 (mm_lt (mm_wr m13 7 x10.toNatClampNeg 0) (fun (m14 : Mm) => mm_ck x10 10 (mm_lt (mm_wr m14 8 x10.toNatClampNeg 0) (fun (m15 : Mm) => mm_ck x10 10 (mm_lt (mm_wr m15 9 x10.toNatClampNeg 0) (fun (m16 : Mm) => mm_ck x10 10 (mm_lt (mm_wr m16 12 x10.toNatClampNeg 0) (fun (m17 : Mm) => mm_ck x10 10 (mm_lt (mm_wr m17 13 x10.toNatClampNeg 0) (fun (m18 : Mm) => mm_ck x10 10 (mm_lt (mm_wr m18 14 x10.toNatClampNeg 0) (fun (m19 : Mm) => mm_ck x10 10 (mm_lt (mm_wr m19 15 x10.toNatClampNeg ((-4))) (fun (m20 : Mm) => mm_ck ((7 * x10) + 6) 70 (mm_ck x10 10 (mm_lt (mm_wr m20 16 x10.toNatClampNeg (m20 1 ((7 * x10) + 6).toNatClampNeg)) (fun (m21 : Mm) => mm_lt (x10 + 1) (fun (x22 : Int32) => rec_58 x22 m21))))))))))))))))))))))))
def fX7_begin (μ : Mm) : Aa := mm_lt (mm_wr μ 0 23 (μ 0 3)) (fun (m1 : Mm) => mm_ck 4 6 (mm_lt (mm_wr m1 0 24 (m1 2 (4 : Int32).toNatClampNeg)) (fun (m2 : Mm) => mm_lt (mm_wr m2 0 25 0) (fun (m3 : Mm) => mm_ck 1 6 (mm_lt (mm_wr m3 0 26 (m3 2 (1 : Int32).toNatClampNeg)) (fun (m4 : Mm) => mm_lt (mm_wr m4 0 27 ((-1))) (fun (m5 : Mm) => mm_ck 0 2 (mm_lt (mm_wr m5 18 (0 : Int32).toNatClampNeg ((-1000))) (fun (m6 : Mm) => mm_ck 1 2 (mm_lt (mm_wr m6 18 (1 : Int32).toNatClampNeg ((-1000))) (fun (m7 : Mm) => mm_lt 0 (fun (x8 : Int32) => mm_lt (fun (m9 : Mm) => some (0, m9)) (fun (k_164 : Mm → Aa) => mm_lk (fun (_ : Int32) (_ : Mm) => (none : Aa)) (fX7_begin_L58 k_164) mm_fu x8 m7)))))))))))))
abbrev rX7_begin : Room := { frames := 0, cells := 0, slots := 0, locals := 0 }
set_option maxRecDepth 100000 in
set_option maxHeartbeats 8000000 in
theorem tX7_begin {l : Launch} {D : va_G} {cA : Nat → ClassId} {adr : Nat → Nat} (hJ : mm_J adr NM) (μ : Mm) : mm_Mv l D cA adr sM NM mm_SM yX7_begin cX7_begin 2 none rX7_begin [.ref (adr 0)] μ (fX7_begin μ) := by
  refine mm_entryv hJ mm_okM (by decide) (Nat.le_of_ble_eq_true rfl) ⟨rfl, rfl⟩ (fun p e s m below meth c X hr => ?_)
  generalize ([.ref (adr 0)] : List Value).toArray = args at X ⊢
  refine gx_lv (lv' := [(0, .ref (adr 0))]) rfl ?_
  unfold fX7_begin
  refine gx_aload_n X 0 1 0 dX7_begin_0 rfl rfl rfl ?_
  refine gx_aload_n X 1 2 0 dX7_begin_1 rfl rfl rfl ?_
  refine gx_getI X 2 5 0 (by decide) rfl rfl fg_X7_16 dX7_begin_2 rfl ?_
  refine gx_putI X 5 8 0 (by decide) rfl rfl fp_X7_191 dX7_begin_5 rfl (fun m1 => ?_)
  refine gx_aload_n X 8 9 0 dX7_begin_8 rfl rfl rfl ?_
  refine gx_aload_n X 9 10 0 dX7_begin_9 rfl rfl rfl ?_
  refine gx_getR X 10 13 0 (by decide) rfl rfl fg_X7_13 dX7_begin_10 rfl ?_
  refine gx_iconst X 13 14 (4) dX7_begin_13 rfl ci_4 ?_
  refine gx_iaload X 14 15 2 (by decide) rfl dX7_begin_14 rfl ?_
  refine gx_putI X 15 18 0 (by decide) rfl rfl fp_X7_194 dX7_begin_15 rfl (fun m2 => ?_)
  refine gx_aload_n X 18 19 0 dX7_begin_18 rfl rfl rfl ?_
  refine gx_iconst X 19 20 (0) dX7_begin_19 rfl ci_0 ?_
  refine gx_putI X 20 23 0 (by decide) rfl rfl fp_X7_197 dX7_begin_20 rfl (fun m3 => ?_)
  refine gx_aload_n X 23 24 0 dX7_begin_23 rfl rfl rfl ?_
  refine gx_aload_n X 24 25 0 dX7_begin_24 rfl rfl rfl ?_
  refine gx_getR X 25 28 0 (by decide) rfl rfl fg_X7_13 dX7_begin_25 rfl ?_
  refine gx_iconst X 28 29 (1) dX7_begin_28 rfl ci_1 ?_
  refine gx_iaload X 29 30 2 (by decide) rfl dX7_begin_29 rfl ?_
  refine gx_putI X 30 33 0 (by decide) rfl rfl fp_X7_200 dX7_begin_30 rfl (fun m4 => ?_)
  refine gx_aload_n X 33 34 0 dX7_begin_33 rfl rfl rfl ?_
  refine gx_iconst X 34 35 (-1) dX7_begin_34 rfl ci_m1 ?_
  refine gx_putI X 35 38 0 (by decide) rfl rfl fp_X7_68 dX7_begin_35 rfl (fun m5 => ?_)
  refine gx_aload_n X 38 39 0 dX7_begin_38 rfl rfl rfl ?_
  refine gx_getR X 39 42 0 (by decide) rfl rfl fg_X7_65 dX7_begin_39 rfl ?_
  refine gx_iconst X 42 43 (0) dX7_begin_42 rfl ci_0 ?_
  refine gx_sipush X 43 46 (-1000) dX7_begin_43 rfl cs_m1000 ?_
  refine gx_iastore X 46 47 18 (by decide) rfl dX7_begin_46 rfl (fun m6 => ?_)
  refine gx_aload_n X 47 48 0 dX7_begin_47 rfl rfl rfl ?_
  refine gx_getR X 48 51 0 (by decide) rfl rfl fg_X7_65 dX7_begin_48 rfl ?_
  refine gx_iconst X 51 52 (1) dX7_begin_51 rfl ci_1 ?_
  refine gx_sipush X 52 55 (-1000) dX7_begin_52 rfl cs_m1000 ?_
  refine gx_iastore X 55 56 18 (by decide) rfl dX7_begin_55 rfl (fun m7 => ?_)
  refine gx_iconst X 56 57 (0) dX7_begin_56 rfl ci_0 ?_
  refine gx_istore_n X 57 58 (fun x8 => [(1, .int x8), (0, .ref (adr 0))]) dX7_begin_57 rfl rfl (by decide) (fun _ => rfl) (fun x8 => ?_)
  refine gx_jn (fun (k : Mm → Aa) => ∀ (m9 : Mm), mm_G p l e rX7_begin s m args below meth c 2 D cA adr sM NM (mm_Qv D cA adr sM NM) m9 164 [] [] (k m9)) ?_ (fun k_164 hk_164 => ?_)
  · intro m9
    exact gx_vret X 164 hr dX7_begin_164
  refine gx_sub [1, 0] rfl ?_
  refine mm_lk_ind (fun (rec : Int32 → Mm → Aa) => ∀ (x10 : Int32) (m11 : Mm), mm_G p l e rX7_begin s m args below meth c 2 D cA adr sM NM (mm_Qv D cA adr sM NM) m11 58 [(0, .ref (adr 0)), (1, .int x10)] [] (rec x10 m11)) (fun _ _ => gx_none) (fun rec_58 hr_58 x10 m11 => ?_) mm_fu x8 m7
  unfold fX7_begin_L58
  refine gx_iload_n X 58 59 1 dX7_begin_58 rfl rfl rfl ?_
  refine gx_aload_n X 59 60 0 dX7_begin_59 rfl rfl rfl ?_
  refine gx_getI X 60 63 0 (by decide) rfl rfl fg_X7_98 dX7_begin_60 rfl ?_
  refine gx_icmp_ge X 63 164 66 dX7_begin_63 rfl rfl ?_ ?_
  · refine gx_sub [] rfl ?_
    exact hk_164 m11
  refine gx_aload_n X 66 67 0 dX7_begin_66 rfl rfl rfl ?_
  refine gx_getR X 67 70 0 (by decide) rfl rfl fg_X7_26 dX7_begin_67 rfl ?_
  refine gx_iload_n X 70 71 1 dX7_begin_70 rfl rfl rfl ?_
  refine gx_iconst X 71 72 (0) dX7_begin_71 rfl ci_0 ?_
  refine gx_iastore X 72 73 5 (by decide) rfl dX7_begin_72 rfl (fun m12 => ?_)
  refine gx_aload_n X 73 74 0 dX7_begin_73 rfl rfl rfl ?_
  refine gx_getR X 74 77 0 (by decide) rfl rfl fg_X7_29 dX7_begin_74 rfl ?_
  refine gx_iload_n X 77 78 1 dX7_begin_77 rfl rfl rfl ?_
  refine gx_aload_n X 78 79 0 dX7_begin_78 rfl rfl rfl ?_
  refine gx_getR X 79 82 0 (by decide) rfl rfl fg_X7_7 dX7_begin_79 rfl ?_
  refine gx_bipush X 82 84 (7) dX7_begin_82 rfl cb_7 ?_
  refine gx_iload_n X 84 85 1 dX7_begin_84 rfl rfl rfl ?_
  refine gx_imul X 85 86 dX7_begin_85 rfl ?_
  refine gx_iconst X 86 87 (1) dX7_begin_86 rfl ci_1 ?_
  refine gx_iadd X 87 88 dX7_begin_87 rfl ?_
  refine gx_iaload X 88 89 1 (by decide) rfl dX7_begin_88 rfl ?_
  refine gx_iastore X 89 90 6 (by decide) rfl dX7_begin_89 rfl (fun m13 => ?_)
  refine gx_aload_n X 90 91 0 dX7_begin_90 rfl rfl rfl ?_
  refine gx_getR X 91 94 0 (by decide) rfl rfl fg_X7_32 dX7_begin_91 rfl ?_
  refine gx_iload_n X 94 95 1 dX7_begin_94 rfl rfl rfl ?_
  refine gx_iconst X 95 96 (0) dX7_begin_95 rfl ci_0 ?_
  refine gx_iastore X 96 97 7 (by decide) rfl dX7_begin_96 rfl (fun m14 => ?_)
  refine gx_aload_n X 97 98 0 dX7_begin_97 rfl rfl rfl ?_
  refine gx_getR X 98 101 0 (by decide) rfl rfl fg_X7_35 dX7_begin_98 rfl ?_
  refine gx_iload_n X 101 102 1 dX7_begin_101 rfl rfl rfl ?_
  refine gx_iconst X 102 103 (0) dX7_begin_102 rfl ci_0 ?_
  refine gx_iastore X 103 104 8 (by decide) rfl dX7_begin_103 rfl (fun m15 => ?_)
  refine gx_aload_n X 104 105 0 dX7_begin_104 rfl rfl rfl ?_
  refine gx_getR X 105 108 0 (by decide) rfl rfl fg_X7_38 dX7_begin_105 rfl ?_
  refine gx_iload_n X 108 109 1 dX7_begin_108 rfl rfl rfl ?_
  refine gx_iconst X 109 110 (0) dX7_begin_109 rfl ci_0 ?_
  refine gx_iastore X 110 111 9 (by decide) rfl dX7_begin_110 rfl (fun m16 => ?_)
  refine gx_aload_n X 111 112 0 dX7_begin_111 rfl rfl rfl ?_
  refine gx_getR X 112 115 0 (by decide) rfl rfl fg_X7_47 dX7_begin_112 rfl ?_
  refine gx_iload_n X 115 116 1 dX7_begin_115 rfl rfl rfl ?_
  refine gx_iconst X 116 117 (0) dX7_begin_116 rfl ci_0 ?_
  refine gx_iastore X 117 118 12 (by decide) rfl dX7_begin_117 rfl (fun m17 => ?_)
  refine gx_aload_n X 118 119 0 dX7_begin_118 rfl rfl rfl ?_
  refine gx_getR X 119 122 0 (by decide) rfl rfl fg_X7_50 dX7_begin_119 rfl ?_
  refine gx_iload_n X 122 123 1 dX7_begin_122 rfl rfl rfl ?_
  refine gx_iconst X 123 124 (0) dX7_begin_123 rfl ci_0 ?_
  refine gx_iastore X 124 125 13 (by decide) rfl dX7_begin_124 rfl (fun m18 => ?_)
  refine gx_aload_n X 125 126 0 dX7_begin_125 rfl rfl rfl ?_
  refine gx_getR X 126 129 0 (by decide) rfl rfl fg_X7_53 dX7_begin_126 rfl ?_
  refine gx_iload_n X 129 130 1 dX7_begin_129 rfl rfl rfl ?_
  refine gx_iconst X 130 131 (0) dX7_begin_130 rfl ci_0 ?_
  refine gx_iastore X 131 132 14 (by decide) rfl dX7_begin_131 rfl (fun m19 => ?_)
  refine gx_aload_n X 132 133 0 dX7_begin_132 rfl rfl rfl ?_
  refine gx_getR X 133 136 0 (by decide) rfl rfl fg_X7_56 dX7_begin_133 rfl ?_
  refine gx_iload_n X 136 137 1 dX7_begin_136 rfl rfl rfl ?_
  refine gx_bipush X 137 139 (-4) dX7_begin_137 rfl cb_m4 ?_
  refine gx_iastore X 139 140 15 (by decide) rfl dX7_begin_139 rfl (fun m20 => ?_)
  refine gx_aload_n X 140 141 0 dX7_begin_140 rfl rfl rfl ?_
  refine gx_getR X 141 144 0 (by decide) rfl rfl fg_X7_59 dX7_begin_141 rfl ?_
  refine gx_iload_n X 144 145 1 dX7_begin_144 rfl rfl rfl ?_
  refine gx_aload_n X 145 146 0 dX7_begin_145 rfl rfl rfl ?_
  refine gx_getR X 146 149 0 (by decide) rfl rfl fg_X7_7 dX7_begin_146 rfl ?_
  refine gx_bipush X 149 151 (7) dX7_begin_149 rfl cb_7 ?_
  refine gx_iload_n X 151 152 1 dX7_begin_151 rfl rfl rfl ?_
  refine gx_imul X 152 153 dX7_begin_152 rfl ?_
  refine gx_bipush X 153 155 (6) dX7_begin_153 rfl cb_6 ?_
  refine gx_iadd X 155 156 dX7_begin_155 rfl ?_
  refine gx_iaload X 156 157 1 (by decide) rfl dX7_begin_156 rfl ?_
  refine gx_iastore X 157 158 16 (by decide) rfl dX7_begin_157 rfl (fun m21 => ?_)
  refine gx_iinc X 158 161 1 (1) (fun x22 => [(1, .int x22), (0, .ref (adr 0))]) dX7_begin_158 rfl rfl ci_1 (by decide) (fun _ => rfl) (fun x22 => ?_)
  refine gx_goto X 161 58 dX7_begin_161 rfl ?_
  refine gx_sub [1, 0] rfl ?_
  exact hr_58 x22 m21
def fX7_comeOver (a1 : Int32) (a2 : Int32) (μ : Mm) : Aa := mm_ck a1 10 (mm_ck a1 10 (mm_lt (mm_wr μ 9 a1.toNatClampNeg ((μ 9 a1.toNatClampNeg) + 1)) (fun (m1 : Mm) => mm_ck a1 10 (mm_ck a1 10 (mm_lt (mm_wr m1 6 a1.toNatClampNeg (1 - (m1 6 a1.toNatClampNeg))) (fun (m2 : Mm) => mm_ck a1 10 (mm_lt (mm_wr m2 10 a1.toNatClampNeg a2) (fun (m3 : Mm) => mm_ck a1 10 (mm_ck ((7 * a1) + 4) 70 (mm_lt (fun (x4 : Int32) (m5 : Mm) => mm_ck a1 10 (mm_lt (mm_wr m5 5 a1.toNatClampNeg x4) (fun (m6 : Mm) => mm_ck a1 10 (mm_lt (fun (x7 : Int32) (m8 : Mm) => mm_ck a1 10 (mm_lt (mm_wr m8 15 a1.toNatClampNeg x7) (fun (m9 : Mm) => some (0, m9)))) (fun (k_83 : Int32 → Mm → Aa) => if (m6 5 a1.toNatClampNeg) = 4 then (k_83 a2 m6) else (k_83 ((-4)) m6)))))) (fun (k_61 : Int32 → Mm → Aa) => if (m3 9 a1.toNatClampNeg) = (m3 1 ((7 * a1) + 4).toNatClampNeg) then (k_61 4 m3) else (k_61 1 m3))))))))))))
abbrev rX7_comeOver : Room := { frames := 0, cells := 0, slots := 0, locals := 0 }
set_option maxRecDepth 100000 in
set_option maxHeartbeats 8000000 in
theorem tX7_comeOver {l : Launch} {D : va_G} {cA : Nat → ClassId} {adr : Nat → Nat} (hJ : mm_J adr NM) (a1 : Int32) (a2 : Int32) (μ : Mm) : mm_Mv l D cA adr sM NM mm_SM yX7_comeOver cX7_comeOver 3 none rX7_comeOver [.ref (adr 0), .int a1, .int a2] μ (fX7_comeOver a1 a2 μ) := by
  refine mm_entryv hJ mm_okM (by decide) (Nat.le_of_ble_eq_true rfl) ⟨rfl, rfl⟩ (fun p e s m below meth c X hr => ?_)
  generalize ([.ref (adr 0), .int a1, .int a2] : List Value).toArray = args at X ⊢
  refine gx_lv (lv' := [(0, .ref (adr 0)), (1, .int a1), (2, .int a2)]) rfl ?_
  unfold fX7_comeOver
  refine gx_aload_n X 0 1 0 dX7_comeOver_0 rfl rfl rfl ?_
  refine gx_getR X 1 4 0 (by decide) rfl rfl fg_X7_38 dX7_comeOver_1 rfl ?_
  refine gx_iload_n X 4 5 1 dX7_comeOver_4 rfl rfl rfl ?_
  refine gx_dup2 X 5 6 dX7_comeOver_5 rfl rfl rfl ?_
  refine gx_iaload X 6 7 9 (by decide) rfl dX7_comeOver_6 rfl ?_
  refine gx_iconst X 7 8 (1) dX7_comeOver_7 rfl ci_1 ?_
  refine gx_iadd X 8 9 dX7_comeOver_8 rfl ?_
  refine gx_iastore X 9 10 9 (by decide) rfl dX7_comeOver_9 rfl (fun m1 => ?_)
  refine gx_aload_n X 10 11 0 dX7_comeOver_10 rfl rfl rfl ?_
  refine gx_getR X 11 14 0 (by decide) rfl rfl fg_X7_29 dX7_comeOver_11 rfl ?_
  refine gx_iload_n X 14 15 1 dX7_comeOver_14 rfl rfl rfl ?_
  refine gx_iconst X 15 16 (1) dX7_comeOver_15 rfl ci_1 ?_
  refine gx_aload_n X 16 17 0 dX7_comeOver_16 rfl rfl rfl ?_
  refine gx_getR X 17 20 0 (by decide) rfl rfl fg_X7_29 dX7_comeOver_17 rfl ?_
  refine gx_iload_n X 20 21 1 dX7_comeOver_20 rfl rfl rfl ?_
  refine gx_iaload X 21 22 6 (by decide) rfl dX7_comeOver_21 rfl ?_
  refine gx_isub X 22 23 dX7_comeOver_22 rfl ?_
  refine gx_iastore X 23 24 6 (by decide) rfl dX7_comeOver_23 rfl (fun m2 => ?_)
  refine gx_aload_n X 24 25 0 dX7_comeOver_24 rfl rfl rfl ?_
  refine gx_getR X 25 28 0 (by decide) rfl rfl fg_X7_41 dX7_comeOver_25 rfl ?_
  refine gx_iload_n X 28 29 1 dX7_comeOver_28 rfl rfl rfl ?_
  refine gx_iload_n X 29 30 2 dX7_comeOver_29 rfl rfl rfl ?_
  refine gx_iastore X 30 31 10 (by decide) rfl dX7_comeOver_30 rfl (fun m3 => ?_)
  refine gx_aload_n X 31 32 0 dX7_comeOver_31 rfl rfl rfl ?_
  refine gx_getR X 32 35 0 (by decide) rfl rfl fg_X7_26 dX7_comeOver_32 rfl ?_
  refine gx_iload_n X 35 36 1 dX7_comeOver_35 rfl rfl rfl ?_
  refine gx_aload_n X 36 37 0 dX7_comeOver_36 rfl rfl rfl ?_
  refine gx_getR X 37 40 0 (by decide) rfl rfl fg_X7_38 dX7_comeOver_37 rfl ?_
  refine gx_iload_n X 40 41 1 dX7_comeOver_40 rfl rfl rfl ?_
  refine gx_iaload X 41 42 9 (by decide) rfl dX7_comeOver_41 rfl ?_
  refine gx_aload_n X 42 43 0 dX7_comeOver_42 rfl rfl rfl ?_
  refine gx_getR X 43 46 0 (by decide) rfl rfl fg_X7_7 dX7_comeOver_43 rfl ?_
  refine gx_bipush X 46 48 (7) dX7_comeOver_46 rfl cb_7 ?_
  refine gx_iload_n X 48 49 1 dX7_comeOver_48 rfl rfl rfl ?_
  refine gx_imul X 49 50 dX7_comeOver_49 rfl ?_
  refine gx_iconst X 50 51 (4) dX7_comeOver_50 rfl ci_4 ?_
  refine gx_iadd X 51 52 dX7_comeOver_51 rfl ?_
  refine gx_iaload X 52 53 1 (by decide) rfl dX7_comeOver_52 rfl ?_
  refine gx_jn (fun (k : Int32 → Mm → Aa) => ∀ (x4 : Int32) (m5 : Mm), mm_G p l e rX7_comeOver s m args below meth c 3 D cA adr sM NM (mm_Qv D cA adr sM NM) m5 61 [(0, .ref (adr 0)), (1, .int a1), (2, .int a2)] [.int x4, .int a1, .ref (adr 5)] (k x4 m5)) ?_ (fun k_61 hk_61 => ?_)
  · intro x4 m5
    refine gx_iastore X 61 62 5 (by decide) rfl dX7_comeOver_61 rfl (fun m6 => ?_)
    refine gx_aload_n X 62 63 0 dX7_comeOver_62 rfl rfl rfl ?_
    refine gx_getR X 63 66 0 (by decide) rfl rfl fg_X7_56 dX7_comeOver_63 rfl ?_
    refine gx_iload_n X 66 67 1 dX7_comeOver_66 rfl rfl rfl ?_
    refine gx_aload_n X 67 68 0 dX7_comeOver_67 rfl rfl rfl ?_
    refine gx_getR X 68 71 0 (by decide) rfl rfl fg_X7_26 dX7_comeOver_68 rfl ?_
    refine gx_iload_n X 71 72 1 dX7_comeOver_71 rfl rfl rfl ?_
    refine gx_iaload X 72 73 5 (by decide) rfl dX7_comeOver_72 rfl ?_
    refine gx_iconst X 73 74 (4) dX7_comeOver_73 rfl ci_4 ?_
    refine gx_jn (fun (k : Int32 → Mm → Aa) => ∀ (x7 : Int32) (m8 : Mm), mm_G p l e rX7_comeOver s m args below meth c 3 D cA adr sM NM (mm_Qv D cA adr sM NM) m8 83 [] [.int x7, .int a1, .ref (adr 15)] (k x7 m8)) ?_ (fun k_83 hk_83 => ?_)
    · intro x7 m8
      refine gx_iastore X 83 84 15 (by decide) rfl dX7_comeOver_83 rfl (fun m9 => ?_)
      exact gx_vret X 84 hr dX7_comeOver_84
    refine gx_icmp_ne X 74 81 77 dX7_comeOver_74 rfl rfl ?_ ?_
    · refine gx_bipush X 81 83 (-4) dX7_comeOver_81 rfl cb_m4 ?_
      refine gx_sub [] rfl ?_
      exact hk_83 ((-4)) m6
    refine gx_iload_n X 77 78 2 dX7_comeOver_77 rfl rfl rfl ?_
    refine gx_goto X 78 83 dX7_comeOver_78 rfl ?_
    refine gx_sub [] rfl ?_
    exact hk_83 a2 m6
  refine gx_icmp_ne X 53 60 56 dX7_comeOver_53 rfl rfl ?_ ?_
  · refine gx_iconst X 60 61 (1) dX7_comeOver_60 rfl ci_1 ?_
    exact hk_61 1 m3
  refine gx_iconst X 56 57 (4) dX7_comeOver_56 rfl ci_4 ?_
  refine gx_goto X 57 61 dX7_comeOver_57 rfl ?_
  exact hk_61 4 m3
def fX7_goOn_L2 (k_74 : Mm → Aa) (rec_2 : Int32 → Mm → Aa) (x3 : Int32) (m4 : Mm) : Aa := if (m4 0 1) ≤ x3 then (k_74 m4) else (mm_ck x3 10 (mm_lt (fun (m5 : Mm) => mm_lt (x3 + 1) (fun (x6 : Int32) => rec_2 x6 m5)) (fun (k_68 : Mm → Aa) => if (m4 5 x3.toNatClampNeg) = 2 then (mm_ck x3 10 (if (m4 8 x3.toNatClampNeg) = 0 then (mm_ck x3 10 (mm_ck x3 10 (mm_ck x3 10 (mm_lt (mm_wr m4 7 x3.toNatClampNeg ((m4 7 x3.toNatClampNeg) + (m4 11 x3.toNatClampNeg))) (fun (m7 : Mm) => mm_ck x3 10 (mm_lt (fun (x8 : Int32) (m9 : Mm) => mm_ck x3 10 (mm_lt (mm_wr m9 8 x3.toNatClampNeg x8) (fun (m10 : Mm) => k_68 m10))) (fun (k_67 : Int32 → Mm → Aa) => if (m7 7 x3.toNatClampNeg) < (m7 0 23) then (k_67 0 m7) else (k_67 1 m7)))))))) else (k_68 m4))) else (k_68 m4))))
def fX7_goOn (μ : Mm) : Aa := mm_lt 0 (fun (x1 : Int32) => mm_lt (fun (m2 : Mm) => some (0, m2)) (fun (k_74 : Mm → Aa) => mm_lk (fun (_ : Int32) (_ : Mm) => (none : Aa)) (fX7_goOn_L2 k_74) mm_fu x1 μ))
abbrev rX7_goOn : Room := { frames := 0, cells := 0, slots := 0, locals := 0 }
set_option maxRecDepth 100000 in
set_option maxHeartbeats 8000000 in
theorem tX7_goOn {l : Launch} {D : va_G} {cA : Nat → ClassId} {adr : Nat → Nat} (hJ : mm_J adr NM) (μ : Mm) : mm_Mv l D cA adr sM NM mm_SM yX7_goOn cX7_goOn 2 none rX7_goOn [.ref (adr 0)] μ (fX7_goOn μ) := by
  refine mm_entryv hJ mm_okM (by decide) (Nat.le_of_ble_eq_true rfl) ⟨rfl, rfl⟩ (fun p e s m below meth c X hr => ?_)
  generalize ([.ref (adr 0)] : List Value).toArray = args at X ⊢
  refine gx_lv (lv' := [(0, .ref (adr 0))]) rfl ?_
  unfold fX7_goOn
  refine gx_iconst X 0 1 (0) dX7_goOn_0 rfl ci_0 ?_
  refine gx_istore_n X 1 2 (fun x1 => [(1, .int x1), (0, .ref (adr 0))]) dX7_goOn_1 rfl rfl (by decide) (fun _ => rfl) (fun x1 => ?_)
  refine gx_jn (fun (k : Mm → Aa) => ∀ (m2 : Mm), mm_G p l e rX7_goOn s m args below meth c 2 D cA adr sM NM (mm_Qv D cA adr sM NM) m2 74 [] [] (k m2)) ?_ (fun k_74 hk_74 => ?_)
  · intro m2
    exact gx_vret X 74 hr dX7_goOn_74
  refine gx_sub [1, 0] rfl ?_
  refine mm_lk_ind (fun (rec : Int32 → Mm → Aa) => ∀ (x3 : Int32) (m4 : Mm), mm_G p l e rX7_goOn s m args below meth c 2 D cA adr sM NM (mm_Qv D cA adr sM NM) m4 2 [(0, .ref (adr 0)), (1, .int x3)] [] (rec x3 m4)) (fun _ _ => gx_none) (fun rec_2 hr_2 x3 m4 => ?_) mm_fu x1 μ
  unfold fX7_goOn_L2
  refine gx_iload_n X 2 3 1 dX7_goOn_2 rfl rfl rfl ?_
  refine gx_aload_n X 3 4 0 dX7_goOn_3 rfl rfl rfl ?_
  refine gx_getI X 4 7 0 (by decide) rfl rfl fg_X7_98 dX7_goOn_4 rfl ?_
  refine gx_icmp_ge X 7 74 10 dX7_goOn_7 rfl rfl ?_ ?_
  · refine gx_sub [] rfl ?_
    exact hk_74 m4
  refine gx_aload_n X 10 11 0 dX7_goOn_10 rfl rfl rfl ?_
  refine gx_getR X 11 14 0 (by decide) rfl rfl fg_X7_26 dX7_goOn_11 rfl ?_
  refine gx_iload_n X 14 15 1 dX7_goOn_14 rfl rfl rfl ?_
  refine gx_iaload X 15 16 5 (by decide) rfl dX7_goOn_15 rfl ?_
  refine gx_iconst X 16 17 (2) dX7_goOn_16 rfl ci_2 ?_
  refine gx_jn (fun (k : Mm → Aa) => ∀ (m5 : Mm), mm_G p l e rX7_goOn s m args below meth c 2 D cA adr sM NM (mm_Qv D cA adr sM NM) m5 68 [(0, .ref (adr 0)), (1, .int x3)] [] (k m5)) ?_ (fun k_68 hk_68 => ?_)
  · intro m5
    refine gx_iinc X 68 71 1 (1) (fun x6 => [(1, .int x6), (0, .ref (adr 0))]) dX7_goOn_68 rfl rfl ci_1 (by decide) (fun _ => rfl) (fun x6 => ?_)
    refine gx_goto X 71 2 dX7_goOn_71 rfl ?_
    refine gx_sub [1, 0] rfl ?_
    exact hr_2 x6 m5
  refine gx_icmp_ne X 17 68 20 dX7_goOn_17 rfl rfl ?_ ?_
  · exact hk_68 m4
  refine gx_aload_n X 20 21 0 dX7_goOn_20 rfl rfl rfl ?_
  refine gx_getR X 21 24 0 (by decide) rfl rfl fg_X7_35 dX7_goOn_21 rfl ?_
  refine gx_iload_n X 24 25 1 dX7_goOn_24 rfl rfl rfl ?_
  refine gx_iaload X 25 26 8 (by decide) rfl dX7_goOn_25 rfl ?_
  refine gx_if_ne X 26 68 29 dX7_goOn_26 rfl rfl ?_ ?_
  · exact hk_68 m4
  refine gx_aload_n X 29 30 0 dX7_goOn_29 rfl rfl rfl ?_
  refine gx_getR X 30 33 0 (by decide) rfl rfl fg_X7_32 dX7_goOn_30 rfl ?_
  refine gx_iload_n X 33 34 1 dX7_goOn_33 rfl rfl rfl ?_
  refine gx_dup2 X 34 35 dX7_goOn_34 rfl rfl rfl ?_
  refine gx_iaload X 35 36 7 (by decide) rfl dX7_goOn_35 rfl ?_
  refine gx_aload_n X 36 37 0 dX7_goOn_36 rfl rfl rfl ?_
  refine gx_getR X 37 40 0 (by decide) rfl rfl fg_X7_44 dX7_goOn_37 rfl ?_
  refine gx_iload_n X 40 41 1 dX7_goOn_40 rfl rfl rfl ?_
  refine gx_iaload X 41 42 11 (by decide) rfl dX7_goOn_41 rfl ?_
  refine gx_iadd X 42 43 dX7_goOn_42 rfl ?_
  refine gx_iastore X 43 44 7 (by decide) rfl dX7_goOn_43 rfl (fun m7 => ?_)
  refine gx_aload_n X 44 45 0 dX7_goOn_44 rfl rfl rfl ?_
  refine gx_getR X 45 48 0 (by decide) rfl rfl fg_X7_35 dX7_goOn_45 rfl ?_
  refine gx_iload_n X 48 49 1 dX7_goOn_48 rfl rfl rfl ?_
  refine gx_aload_n X 49 50 0 dX7_goOn_49 rfl rfl rfl ?_
  refine gx_getR X 50 53 0 (by decide) rfl rfl fg_X7_32 dX7_goOn_50 rfl ?_
  refine gx_iload_n X 53 54 1 dX7_goOn_53 rfl rfl rfl ?_
  refine gx_iaload X 54 55 7 (by decide) rfl dX7_goOn_54 rfl ?_
  refine gx_aload_n X 55 56 0 dX7_goOn_55 rfl rfl rfl ?_
  refine gx_getI X 56 59 0 (by decide) rfl rfl fg_X7_191 dX7_goOn_56 rfl ?_
  refine gx_jn (fun (k : Int32 → Mm → Aa) => ∀ (x8 : Int32) (m9 : Mm), mm_G p l e rX7_goOn s m args below meth c 2 D cA adr sM NM (mm_Qv D cA adr sM NM) m9 67 [(0, .ref (adr 0)), (1, .int x3)] [.int x8, .int x3, .ref (adr 8)] (k x8 m9)) ?_ (fun k_67 hk_67 => ?_)
  · intro x8 m9
    refine gx_iastore X 67 68 8 (by decide) rfl dX7_goOn_67 rfl (fun m10 => ?_)
    exact hk_68 m10
  refine gx_icmp_lt X 59 66 62 dX7_goOn_59 rfl rfl ?_ ?_
  · refine gx_iconst X 66 67 (0) dX7_goOn_66 rfl ci_0 ?_
    exact hk_67 0 m7
  refine gx_iconst X 62 63 (1) dX7_goOn_62 rfl ci_1 ?_
  refine gx_goto X 63 67 dX7_goOn_63 rfl ?_
  exact hk_67 1 m7
def fX7_mustWait (a1 : Int32) (μ : Mm) : Aa := mm_ck a1 10 (mm_lt (μ 16 a1.toNatClampNeg) (fun (x1 : Int32) => mm_lt (fun (x2 : Int32) (m3 : Mm) => mm_bo x2 (some (x2, m3))) (fun (k_50 : Int32 → Mm → Aa) => mm_lt (fun (m4 : Mm) => k_50 0 m4) (fun (k_49 : Mm → Aa) => if x1 < 0 then (k_49 μ) else (mm_ck x1 10 (if (μ 5 x1.toNatClampNeg) = 2 then (mm_ck x1 10 (mm_ck a1 10 (if (μ 6 x1.toNatClampNeg) = (μ 6 a1.toNatClampNeg) then (mm_ck x1 10 (if (μ 8 x1.toNatClampNeg) = 0 then (k_50 1 μ) else (k_49 μ))) else (k_49 μ)))) else (k_49 μ)))))))
abbrev rX7_mustWait : Room := { frames := 0, cells := 0, slots := 0, locals := 0 }
set_option maxRecDepth 100000 in
set_option maxHeartbeats 8000000 in
theorem tX7_mustWait {l : Launch} {D : va_G} {cA : Nat → ClassId} {adr : Nat → Nat} (hJ : mm_J adr NM) (a1 : Int32) (μ : Mm) : mm_Mi l D cA adr sM NM mm_SM yX7_mustWait cX7_mustWait 3 (some .boolean) rX7_mustWait [.ref (adr 0), .int a1] μ (fX7_mustWait a1 μ) := by
  refine mm_entryi hJ mm_okM (by decide) (Nat.le_of_ble_eq_true rfl) ⟨rfl, rfl⟩ (fun p e s m below meth c X hr => ?_)
  generalize ([.ref (adr 0), .int a1] : List Value).toArray = args at X ⊢
  refine gx_lv (lv' := [(0, .ref (adr 0)), (1, .int a1)]) rfl ?_
  unfold fX7_mustWait
  refine gx_aload_n X 0 1 0 dX7_mustWait_0 rfl rfl rfl ?_
  refine gx_getR X 1 4 0 (by decide) rfl rfl fg_X7_59 dX7_mustWait_1 rfl ?_
  refine gx_iload_n X 4 5 1 dX7_mustWait_4 rfl rfl rfl ?_
  refine gx_iaload X 5 6 16 (by decide) rfl dX7_mustWait_5 rfl ?_
  refine gx_istore_n X 6 7 (fun x1 => [(2, .int x1), (0, .ref (adr 0)), (1, .int a1)]) dX7_mustWait_6 rfl rfl (by decide) (fun _ => rfl) (fun x1 => ?_)
  refine gx_iload_n X 7 8 0 dX7_mustWait_7 rfl rfl rfl ?_
  refine gx_jn (fun (k : Int32 → Mm → Aa) => ∀ (x2 : Int32) (m3 : Mm), mm_G p l e rX7_mustWait s m args below meth c 3 D cA adr sM NM (mm_Qi D cA adr sM NM) m3 50 [] [.int x2] (k x2 m3)) ?_ (fun k_50 hk_50 => ?_)
  · intro x2 m3
    exact gx_zret X 50 hr dX7_mustWait_50
  refine gx_jn (fun (k : Mm → Aa) => ∀ (m4 : Mm), mm_G p l e rX7_mustWait s m args below meth c 3 D cA adr sM NM (mm_Qi D cA adr sM NM) m4 49 [] [] (k m4)) ?_ (fun k_49 hk_49 => ?_)
  · intro m4
    refine gx_iconst X 49 50 (0) dX7_mustWait_49 rfl ci_0 ?_
    exact hk_50 0 m4
  refine gx_if_lt X 8 49 11 dX7_mustWait_8 rfl rfl ?_ ?_
  · refine gx_sub [] rfl ?_
    exact hk_49 μ
  refine gx_aload_n X 11 12 1 dX7_mustWait_11 rfl rfl rfl ?_
  refine gx_getR X 12 15 0 (by decide) rfl rfl fg_X7_26 dX7_mustWait_12 rfl ?_
  refine gx_iload_n X 15 16 0 dX7_mustWait_15 rfl rfl rfl ?_
  refine gx_iaload X 16 17 5 (by decide) rfl dX7_mustWait_16 rfl ?_
  refine gx_iconst X 17 18 (2) dX7_mustWait_17 rfl ci_2 ?_
  refine gx_icmp_ne X 18 49 21 dX7_mustWait_18 rfl rfl ?_ ?_
  · refine gx_sub [] rfl ?_
    exact hk_49 μ
  refine gx_aload_n X 21 22 1 dX7_mustWait_21 rfl rfl rfl ?_
  refine gx_getR X 22 25 0 (by decide) rfl rfl fg_X7_29 dX7_mustWait_22 rfl ?_
  refine gx_iload_n X 25 26 0 dX7_mustWait_25 rfl rfl rfl ?_
  refine gx_iaload X 26 27 6 (by decide) rfl dX7_mustWait_26 rfl ?_
  refine gx_aload_n X 27 28 1 dX7_mustWait_27 rfl rfl rfl ?_
  refine gx_getR X 28 31 0 (by decide) rfl rfl fg_X7_29 dX7_mustWait_28 rfl ?_
  refine gx_iload_n X 31 32 2 dX7_mustWait_31 rfl rfl rfl ?_
  refine gx_iaload X 32 33 6 (by decide) rfl dX7_mustWait_32 rfl ?_
  refine gx_icmp_ne X 33 49 36 dX7_mustWait_33 rfl rfl ?_ ?_
  · refine gx_sub [] rfl ?_
    exact hk_49 μ
  refine gx_aload_n X 36 37 1 dX7_mustWait_36 rfl rfl rfl ?_
  refine gx_getR X 37 40 0 (by decide) rfl rfl fg_X7_35 dX7_mustWait_37 rfl ?_
  refine gx_iload_n X 40 41 0 dX7_mustWait_40 rfl rfl rfl ?_
  refine gx_iaload X 41 42 8 (by decide) rfl dX7_mustWait_41 rfl ?_
  refine gx_if_ne X 42 49 45 dX7_mustWait_42 rfl rfl ?_ ?_
  · refine gx_sub [] rfl ?_
    exact hk_49 μ
  refine gx_iconst X 45 46 (1) dX7_mustWait_45 rfl ci_1 ?_
  refine gx_goto X 46 50 dX7_mustWait_46 rfl ?_
  refine gx_sub [] rfl ?_
  exact hk_50 1 μ
def fX7_countsAt (a1 : Int32) (a2 : Int32) (a3 : Int32) (a4 : Int32) (μ : Mm) : Aa := mm_lt (fun (x1 : Int32) (m2 : Mm) => mm_lt x1 (fun (x3 : Int32) => mm_lt (fun (x4 : Int32) (m5 : Mm) => some (x4 + a4, m5)) (fun (k_81 : Int32 → Mm → Aa) => if (m2 0 26) = 2 then (if a3 ≤ 0 then (k_81 x3 m2) else (mm_ck a1 2 (mm_ck 2 6 (mm_lt (fun (x6 : Int32) (m7 : Mm) => mm_lt x6 (fun (x8 : Int32) => mm_lt (fun (x9 : Int32) (m10 : Mm) => mm_ck a1 2 (mm_lt (mm_wr m10 18 a1.toNatClampNeg x9) (fun (m11 : Mm) => k_81 x8 m11))) (fun (k_80 : Int32 → Mm → Aa) => if x8 = 1 then (k_80 a2 m7) else (mm_ck a1 2 (k_80 (m7 18 a1.toNatClampNeg) m7))))) (fun (k_57 : Int32 → Mm → Aa) => if (a2 - (m2 18 a1.toNatClampNeg)) ≤ (m2 2 (2 : Int32).toNatClampNeg) then (k_57 0 m2) else (k_57 1 m2)))))) else (k_81 x3 m2)))) (fun (k_21 : Int32 → Mm → Aa) => if a3 = 0 then (k_21 0 μ) else (if (μ 0 26) = 1 then (k_21 a3 μ) else (k_21 1 μ)))
abbrev rX7_countsAt : Room := { frames := 0, cells := 0, slots := 0, locals := 0 }
set_option maxRecDepth 100000 in
set_option maxHeartbeats 8000000 in
theorem tX7_countsAt {l : Launch} {D : va_G} {cA : Nat → ClassId} {adr : Nat → Nat} (hJ : mm_J adr NM) (a1 : Int32) (a2 : Int32) (a3 : Int32) (a4 : Int32) (μ : Mm) : mm_Mi l D cA adr sM NM mm_SM yX7_countsAt cX7_countsAt 6 (some .int) rX7_countsAt [.ref (adr 0), .int a1, .int a2, .int a3, .int a4] μ (fX7_countsAt a1 a2 a3 a4 μ) := by
  refine mm_entryi hJ mm_okM (by decide) (Nat.le_of_ble_eq_true rfl) ⟨rfl, rfl⟩ (fun p e s m below meth c X hr => ?_)
  generalize ([.ref (adr 0), .int a1, .int a2, .int a3, .int a4] : List Value).toArray = args at X ⊢
  refine gx_lv (lv' := [(0, .ref (adr 0)), (1, .int a1), (2, .int a2), (3, .int a3), (4, .int a4)]) rfl ?_
  unfold fX7_countsAt
  refine gx_iload_n X 0 1 3 dX7_countsAt_0 rfl rfl rfl ?_
  refine gx_jn (fun (k : Int32 → Mm → Aa) => ∀ (x1 : Int32) (m2 : Mm), mm_G p l e rX7_countsAt s m args below meth c 6 D cA adr sM NM (mm_Qi D cA adr sM NM) m2 21 [(0, .ref (adr 0)), (1, .int a1), (2, .int a2), (3, .int a3), (4, .int a4)] [.int x1] (k x1 m2)) ?_ (fun k_21 hk_21 => ?_)
  · intro x1 m2
    refine gx_istore X 21 23 (fun x3 => [(5, .int x3), (0, .ref (adr 0)), (1, .int a1), (2, .int a2), (3, .int a3), (4, .int a4)]) dX7_countsAt_21 rfl (by decide) (fun _ => rfl) (fun x3 => ?_)
    refine gx_aload_n X 23 24 1 dX7_countsAt_23 rfl rfl rfl ?_
    refine gx_getI X 24 27 0 (by decide) rfl rfl fg_X7_200 dX7_countsAt_24 rfl ?_
    refine gx_iconst X 27 28 (2) dX7_countsAt_27 rfl ci_2 ?_
    refine gx_jn (fun (k : Int32 → Mm → Aa) => ∀ (x4 : Int32) (m5 : Mm), mm_G p l e rX7_countsAt s m args below meth c 6 D cA adr sM NM (mm_Qi D cA adr sM NM) m5 81 [(4, .int a4), (5, .int x4)] [] (k x4 m5)) ?_ (fun k_81 hk_81 => ?_)
    · intro x4 m5
      refine gx_iload X 81 83 1 dX7_countsAt_81 rfl rfl ?_
      refine gx_iload X 83 85 0 dX7_countsAt_83 rfl rfl ?_
      refine gx_iadd X 85 86 dX7_countsAt_85 rfl ?_
      exact gx_iret X 86 hr dX7_countsAt_86
    refine gx_icmp_ne X 28 81 31 dX7_countsAt_28 rfl rfl ?_ ?_
    · refine gx_sub [5, 0] rfl ?_
      exact hk_81 x3 m2
    refine gx_iload_n X 31 32 4 dX7_countsAt_31 rfl rfl rfl ?_
    refine gx_if_le X 32 81 35 dX7_countsAt_32 rfl rfl ?_ ?_
    · refine gx_sub [5, 0] rfl ?_
      exact hk_81 x3 m2
    refine gx_iload_n X 35 36 3 dX7_countsAt_35 rfl rfl rfl ?_
    refine gx_aload_n X 36 37 1 dX7_countsAt_36 rfl rfl rfl ?_
    refine gx_getR X 37 40 0 (by decide) rfl rfl fg_X7_65 dX7_countsAt_37 rfl ?_
    refine gx_iload_n X 40 41 2 dX7_countsAt_40 rfl rfl rfl ?_
    refine gx_iaload X 41 42 18 (by decide) rfl dX7_countsAt_41 rfl ?_
    refine gx_isub X 42 43 dX7_countsAt_42 rfl ?_
    refine gx_aload_n X 43 44 1 dX7_countsAt_43 rfl rfl rfl ?_
    refine gx_getR X 44 47 0 (by decide) rfl rfl fg_X7_13 dX7_countsAt_44 rfl ?_
    refine gx_iconst X 47 48 (2) dX7_countsAt_47 rfl ci_2 ?_
    refine gx_iaload X 48 49 2 (by decide) rfl dX7_countsAt_48 rfl ?_
    refine gx_jn (fun (k : Int32 → Mm → Aa) => ∀ (x6 : Int32) (m7 : Mm), mm_G p l e rX7_countsAt s m args below meth c 6 D cA adr sM NM (mm_Qi D cA adr sM NM) m7 57 [(0, .ref (adr 0)), (1, .int a1), (2, .int a2), (4, .int a4)] [.int x6] (k x6 m7)) ?_ (fun k_57 hk_57 => ?_)
    · intro x6 m7
      refine gx_istore X 57 59 (fun x8 => [(5, .int x8), (0, .ref (adr 0)), (1, .int a1), (2, .int a2), (4, .int a4)]) dX7_countsAt_57 rfl (by decide) (fun _ => rfl) (fun x8 => ?_)
      refine gx_aload_n X 59 60 1 dX7_countsAt_59 rfl rfl rfl ?_
      refine gx_getR X 60 63 0 (by decide) rfl rfl fg_X7_65 dX7_countsAt_60 rfl ?_
      refine gx_iload_n X 63 64 2 dX7_countsAt_63 rfl rfl rfl ?_
      refine gx_iload X 64 66 0 dX7_countsAt_64 rfl rfl ?_
      refine gx_iconst X 66 67 (1) dX7_countsAt_66 rfl ci_1 ?_
      refine gx_jn (fun (k : Int32 → Mm → Aa) => ∀ (x9 : Int32) (m10 : Mm), mm_G p l e rX7_countsAt s m args below meth c 6 D cA adr sM NM (mm_Qi D cA adr sM NM) m10 80 [(4, .int a4), (5, .int x8)] [.int x9, .int a1, .ref (adr 18)] (k x9 m10)) ?_ (fun k_80 hk_80 => ?_)
      · intro x9 m10
        refine gx_iastore X 80 81 18 (by decide) rfl dX7_countsAt_80 rfl (fun m11 => ?_)
        exact hk_81 x8 m11
      refine gx_icmp_ne X 67 74 70 dX7_countsAt_67 rfl rfl ?_ ?_
      · refine gx_aload_n X 74 75 1 dX7_countsAt_74 rfl rfl rfl ?_
        refine gx_getR X 75 78 0 (by decide) rfl rfl fg_X7_65 dX7_countsAt_75 rfl ?_
        refine gx_iload_n X 78 79 2 dX7_countsAt_78 rfl rfl rfl ?_
        refine gx_iaload X 79 80 18 (by decide) rfl dX7_countsAt_79 rfl ?_
        refine gx_sub [4, 0] rfl ?_
        exact hk_80 (m7 18 a1.toNatClampNeg) m7
      refine gx_iload_n X 70 71 3 dX7_countsAt_70 rfl rfl rfl ?_
      refine gx_goto X 71 80 dX7_countsAt_71 rfl ?_
      refine gx_sub [4, 0] rfl ?_
      exact hk_80 a2 m7
    refine gx_icmp_le X 49 56 52 dX7_countsAt_49 rfl rfl ?_ ?_
    · refine gx_iconst X 56 57 (0) dX7_countsAt_56 rfl ci_0 ?_
      refine gx_sub [1, 2, 3, 5] rfl ?_
      exact hk_57 0 m2
    refine gx_iconst X 52 53 (1) dX7_countsAt_52 rfl ci_1 ?_
    refine gx_goto X 53 57 dX7_countsAt_53 rfl ?_
    refine gx_sub [1, 2, 3, 5] rfl ?_
    exact hk_57 1 m2
  refine gx_if_ne X 1 8 4 dX7_countsAt_1 rfl rfl ?_ ?_
  · refine gx_aload_n X 8 9 0 dX7_countsAt_8 rfl rfl rfl ?_
    refine gx_getI X 9 12 0 (by decide) rfl rfl fg_X7_200 dX7_countsAt_9 rfl ?_
    refine gx_iconst X 12 13 (1) dX7_countsAt_12 rfl ci_1 ?_
    refine gx_icmp_ne X 13 20 16 dX7_countsAt_13 rfl rfl ?_ ?_
    · refine gx_iconst X 20 21 (1) dX7_countsAt_20 rfl ci_1 ?_
      exact hk_21 1 μ
    refine gx_iload_n X 16 17 3 dX7_countsAt_16 rfl rfl rfl ?_
    refine gx_goto X 17 21 dX7_countsAt_17 rfl ?_
    exact hk_21 a3 μ
  refine gx_iconst X 4 5 (0) dX7_countsAt_4 rfl ci_0 ?_
  refine gx_goto X 5 21 dX7_countsAt_5 rfl ?_
  exact hk_21 0 μ
def fX7_grow (a1 : Int32) (μ : Mm) : Aa := mm_lt (mm_wr μ 0 25 ((μ 0 25) + a1)) (fun (m1 : Mm) => mm_ck 0 6 (mm_cl (fX7_least 400 ((m1 0 23) + ((m1 2 (0 : Int32).toNatClampNeg) * a1)) m1) (fun (x2 : Int32) (m3 : Mm) => mm_lt (mm_wr m3 0 23 x2) (fun (m4 : Mm) => some (0, m4)))))
abbrev rX7_grow : Room := { frames := 1, cells := 0, slots := 0, locals := 21 }
set_option maxRecDepth 100000 in
set_option maxHeartbeats 8000000 in
theorem tX7_grow {l : Launch} {D : va_G} {cA : Nat → ClassId} {adr : Nat → Nat} (hJ : mm_J adr NM) (a1 : Int32) (μ : Mm) : mm_Mv l D cA adr sM NM mm_SM yX7_grow cX7_grow 2 none rX7_grow [.ref (adr 0), .int a1] μ (fX7_grow a1 μ) := by
  refine mm_entryv hJ mm_okM (by decide) (Nat.le_of_ble_eq_true rfl) ⟨rfl, rfl⟩ (fun p e s m below meth c X hr => ?_)
  generalize ([.ref (adr 0), .int a1] : List Value).toArray = args at X ⊢
  refine gx_lv (lv' := [(0, .ref (adr 0)), (1, .int a1)]) rfl ?_
  unfold fX7_grow
  refine gx_aload_n X 0 1 0 dX7_grow_0 rfl rfl rfl ?_
  refine gx_dup X 1 2 dX7_grow_1 rfl rfl ?_
  refine gx_getI X 2 5 0 (by decide) rfl rfl fg_X7_197 dX7_grow_2 rfl ?_
  refine gx_iload_n X 5 6 1 dX7_grow_5 rfl rfl rfl ?_
  refine gx_iadd X 6 7 dX7_grow_6 rfl ?_
  refine gx_putI X 7 10 0 (by decide) rfl rfl fp_X7_197 dX7_grow_7 rfl (fun m1 => ?_)
  refine gx_aload_n X 10 11 0 dX7_grow_10 rfl rfl rfl ?_
  refine gx_sipush X 11 14 (400) dX7_grow_11 rfl cs_400 ?_
  refine gx_aload_n X 14 15 0 dX7_grow_14 rfl rfl rfl ?_
  refine gx_getI X 15 18 0 (by decide) rfl rfl fg_X7_191 dX7_grow_15 rfl ?_
  refine gx_aload_n X 18 19 0 dX7_grow_18 rfl rfl rfl ?_
  refine gx_getR X 19 22 0 (by decide) rfl rfl fg_X7_13 dX7_grow_19 rfl ?_
  refine gx_iconst X 22 23 (0) dX7_grow_22 rfl ci_0 ?_
  refine gx_iaload X 23 24 2 (by decide) rfl dX7_grow_23 rfl ?_
  refine gx_iload_n X 24 25 1 dX7_grow_24 rfl rfl rfl ?_
  refine gx_imul X 25 26 dX7_grow_25 rfl ?_
  refine gx_iadd X 26 27 dX7_grow_26 rfl ?_
  refine gx_calliS X 27 30 (rest := [.ref (adr 0)]) (As := [.int 400, .int ((m1 0 23) + ((m1 2 (0 : Int32).toNatClampNeg) * a1))]) (tX7_least hJ 400 ((m1 0 23) + ((m1 2 (0 : Int32).toNatClampNeg) * a1)) m1) wc_X7_least wl_X7_203 wt_X7_least wn_X7 hd_X7_least ⟨Nat.le_of_ble_eq_true rfl, Nat.le_of_ble_eq_true rfl⟩ ⟨rfl, rfl⟩ rfl rfl (Nat.le_of_ble_eq_true rfl) dX7_grow_27 rfl (fun x2 m3 => ?_)
  refine gx_putI X 30 33 0 (by decide) rfl rfl fp_X7_191 dX7_grow_30 rfl (fun m4 => ?_)
  exact gx_vret X 33 hr dX7_grow_33
