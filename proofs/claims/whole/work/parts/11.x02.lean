def fX2_begin_L12 (q0 : Nat) (k_31 : Mm → Aa) (rec_12 : Int32 → Mm → Aa) (x5 : Int32) (m6 : Mm) : Aa := if 24 ≤ x5 then (k_31 m6) else (mm_ck x5 24 (mm_lt (mm_wr m6 q0 x5.toNatClampNeg 0) (fun (m7 : Mm) => mm_lt (x5 + 1) (fun (x8 : Int32) => rec_12 x8 m7))))
def fX2_begin (k0 : Nat) (q0 : Nat) (a1 : Int32) (a2 : Int32) (μ : Mm) : Aa := mm_lt (mm_wr μ k0 0 a1) (fun (m1 : Mm) => mm_lt (mm_wr m1 k0 1 a2) (fun (m2 : Mm) => mm_lt 0 (fun (x3 : Int32) => mm_lt (fun (m4 : Mm) => some (0, m4)) (fun (k_31 : Mm → Aa) => mm_lk (fun (_ : Int32) (_ : Mm) => (none : Aa)) (fX2_begin_L12 q0 k_31) mm_fu x3 m2))))
abbrev rX2_begin : Room := { frames := 0, cells := 0, slots := 0, locals := 0 }
set_option maxRecDepth 100000 in
set_option maxHeartbeats 8000000 in
theorem tX2_begin {l : Launch} {D : va_G} {cA : Nat → ClassId} {adr : Nat → Nat} {tt sK sV : Nat → Nat} {qv : Value} (hJ : mm_J adr NX) (k0 : Nat) (q0 : Nat) (a1 : Int32) (a2 : Int32) (hk0 : k0 < NX) (hs0 : sX k0 = .inr (.inr (2, [none, none, some q0]))) (hq0 : q0 < NX) (hr0 : sX q0 = .inl 24) (μ : Mm) : mm_Mv l D cA adr sX NX (mm_SX (mm_A adr NX) tt sK sV qv) yX2_begin cX2_begin 4 none rX2_begin [.ref (adr k0), .int a1, .int a2] μ (fX2_begin k0 q0 a1 a2 μ) := by
  refine mm_entryv hJ mm_okX (by decide) (Nat.le_of_ble_eq_true rfl) ⟨rfl, rfl⟩ (fun p e s m below meth c X hr => ?_)
  generalize ([.ref (adr k0), .int a1, .int a2] : List Value).toArray = args at X ⊢
  refine gx_lv (lv' := [(0, .ref (adr k0)), (1, .int a1), (2, .int a2)]) rfl ?_
  unfold fX2_begin
  refine gx_aload_n X 0 1 0 dX2_begin_0 rfl rfl rfl ?_
  refine gx_iload_n X 1 2 1 dX2_begin_1 rfl rfl rfl ?_
  refine gx_putI X 2 5 k0 hk0 hs0 rfl fp_X2_9 dX2_begin_2 rfl (fun m1 => ?_)
  refine gx_aload_n X 5 6 0 dX2_begin_5 rfl rfl rfl ?_
  refine gx_iload_n X 6 7 2 dX2_begin_6 rfl rfl rfl ?_
  refine gx_putI X 7 10 k0 hk0 hs0 rfl fp_X2_19 dX2_begin_7 rfl (fun m2 => ?_)
  refine gx_iconst X 10 11 (0) dX2_begin_10 rfl ci_0 ?_
  refine gx_istore_n X 11 12 (fun x3 => [(3, .int x3), (0, .ref (adr k0)), (1, .int a1), (2, .int a2)]) dX2_begin_11 rfl rfl (by decide) (fun _ => rfl) (fun x3 => ?_)
  refine gx_jn (fun (k : Mm → Aa) => ∀ (m4 : Mm), mm_G p l e rX2_begin s m args below meth c 4 D cA adr sX NX (mm_Qv D cA adr sX NX) m4 31 [] [] (k m4)) ?_ (fun k_31 hk_31 => ?_)
  · intro m4
    exact gx_vret X 31 hr dX2_begin_31
  refine gx_sub [1, 0] rfl ?_
  refine mm_lk_ind (fun (rec : Int32 → Mm → Aa) => ∀ (x5 : Int32) (m6 : Mm), mm_G p l e rX2_begin s m args below meth c 4 D cA adr sX NX (mm_Qv D cA adr sX NX) m6 12 [(0, .ref (adr k0)), (3, .int x5)] [] (rec x5 m6)) (fun _ _ => gx_none) (fun rec_12 hr_12 x5 m6 => ?_) mm_fu x3 m2
  unfold fX2_begin_L12
  refine gx_iload_n X 12 13 1 dX2_begin_12 rfl rfl rfl ?_
  refine gx_bipush X 13 15 (24) dX2_begin_13 rfl cb_24 ?_
  refine gx_icmp_ge X 15 31 18 dX2_begin_15 rfl rfl ?_ ?_
  · refine gx_sub [] rfl ?_
    exact hk_31 m6
  refine gx_aload_n X 18 19 0 dX2_begin_18 rfl rfl rfl ?_
  refine gx_getR X 19 22 k0 hk0 hs0 rfl fg_X2_15 dX2_begin_19 rfl ?_
  refine gx_iload_n X 22 23 1 dX2_begin_22 rfl rfl rfl ?_
  refine gx_iconst X 23 24 (0) dX2_begin_23 rfl ci_0 ?_
  refine gx_iastore X 24 25 q0 hq0 hr0 dX2_begin_24 rfl (fun m7 => ?_)
  refine gx_iinc X 25 28 1 (1) (fun x8 => [(3, .int x8), (0, .ref (adr k0))]) dX2_begin_25 rfl rfl ci_1 (by decide) (fun _ => rfl) (fun x8 => ?_)
  refine gx_goto X 28 12 dX2_begin_28 rfl ?_
  refine gx_sub [1, 0] rfl ?_
  exact hr_12 x8 m7
def fX2_put (k0 : Nat) (q0 : Nat) (a1 : Int32) (a2 : Int32) (μ : Mm) : Aa := mm_cl (fX6_isWithin a1 (μ k0 1) μ) (fun (x1 : Int32) (m2 : Mm) => if x1 = 0 then (some (0, m2)) else (mm_lt (fun (m3 : Mm) => some (0, m3)) (fun (k_73 : Mm → Aa) => if (m2 k0 0) = 0 then (mm_ck a1 24 (mm_lt (mm_wr m2 q0 a1.toNatClampNeg a2.toInt8.toInt32) (fun (m4 : Mm) => k_73 m4))) else (if (m2 k0 0) = 1 then (mm_ck a1 24 (mm_lt (mm_wr m2 q0 a1.toNatClampNeg a2.toInt16.toInt32) (fun (m5 : Mm) => k_73 m5))) else (mm_ck a1 24 (mm_lt (mm_wr m2 q0 a1.toNatClampNeg a2) (fun (m6 : Mm) => k_73 m6)))))))
abbrev rX2_put : Room := { frames := 1, cells := 0, slots := 0, locals := 21 }
set_option maxRecDepth 100000 in
set_option maxHeartbeats 8000000 in
theorem tX2_put {l : Launch} {D : va_G} {cA : Nat → ClassId} {adr : Nat → Nat} {tt sK sV : Nat → Nat} {qv : Value} (hJ : mm_J adr NX) (k0 : Nat) (q0 : Nat) (a1 : Int32) (a2 : Int32) (hk0 : k0 < NX) (hs0 : sX k0 = .inr (.inr (2, [none, none, some q0]))) (hq0 : q0 < NX) (hr0 : sX q0 = .inl 24) (μ : Mm) : mm_Mv l D cA adr sX NX (mm_SX (mm_A adr NX) tt sK sV qv) yX2_put cX2_put 3 none rX2_put [.ref (adr k0), .int a1, .int a2] μ (fX2_put k0 q0 a1 a2 μ) := by
  refine mm_entryv hJ mm_okX (by decide) (Nat.le_of_ble_eq_true rfl) ⟨rfl, rfl⟩ (fun p e s m below meth c X hr => ?_)
  generalize ([.ref (adr k0), .int a1, .int a2] : List Value).toArray = args at X ⊢
  refine gx_lv (lv' := [(0, .ref (adr k0)), (1, .int a1), (2, .int a2)]) rfl ?_
  unfold fX2_put
  refine gx_iload_n X 0 1 1 dX2_put_0 rfl rfl rfl ?_
  refine gx_aload_n X 1 2 0 dX2_put_1 rfl rfl rfl ?_
  refine gx_getI X 2 5 k0 hk0 hs0 rfl fg_X2_19 dX2_put_2 rfl ?_
  refine gx_calliN X 5 8 (rest := []) (As := [.int a1, .int (μ k0 1)]) (tX6_isWithin hJ a1 (μ k0 1) μ) wc_X6_isWithin (mm_nest X (List.mem_of_getElem? (i := 5) rfl)) wt_X6_isWithin wn_X6 hd_X6_isWithin ⟨Nat.le_of_ble_eq_true rfl, Nat.le_of_ble_eq_true rfl⟩ ⟨rfl, rfl⟩ rfl rfl (Nat.le_of_ble_eq_true rfl) dX2_put_5 rfl (fun x1 m2 => ?_)
  refine gx_if_ne X 8 12 11 dX2_put_8 rfl rfl ?_ ?_
  · refine gx_aload_n X 12 13 0 dX2_put_12 rfl rfl rfl ?_
    refine gx_getI X 13 16 k0 hk0 hs0 rfl fg_X2_9 dX2_put_13 rfl ?_
    refine gx_jn (fun (k : Mm → Aa) => ∀ (m3 : Mm), mm_G p l e rX2_put s m args below meth c 3 D cA adr sX NX (mm_Qv D cA adr sX NX) m3 73 [] [] (k m3)) ?_ (fun k_73 hk_73 => ?_)
    · intro m3
      exact gx_vret X 73 hr dX2_put_73
    refine gx_if (fun hc16_0 => ?_) (fun hc16_0 => ?_)
    · refine gx_lookAt X 16 44 (0) (off := 28) hc16_0 dX2_put_16 (by decide) (by decide) rfl ?_
      refine gx_aload_n X 44 45 0 dX2_put_44 rfl rfl rfl ?_
      refine gx_getR X 45 48 k0 hk0 hs0 rfl fg_X2_15 dX2_put_45 rfl ?_
      refine gx_iload_n X 48 49 1 dX2_put_48 rfl rfl rfl ?_
      refine gx_iload_n X 49 50 2 dX2_put_49 rfl rfl rfl ?_
      refine gx_i2b X 50 51 dX2_put_50 rfl ?_
      refine gx_iastore X 51 52 q0 hq0 hr0 dX2_put_51 rfl (fun m4 => ?_)
      refine gx_goto X 52 73 dX2_put_52 rfl ?_
      refine gx_sub [] rfl ?_
      exact hk_73 m4
    refine gx_if (fun hc16_1 => ?_) (fun hc16_1 => ?_)
    · refine gx_lookAt X 16 55 (1) (off := 39) hc16_1 dX2_put_16 (by decide) (by decide) rfl ?_
      refine gx_aload_n X 55 56 0 dX2_put_55 rfl rfl rfl ?_
      refine gx_getR X 56 59 k0 hk0 hs0 rfl fg_X2_15 dX2_put_56 rfl ?_
      refine gx_iload_n X 59 60 1 dX2_put_59 rfl rfl rfl ?_
      refine gx_iload_n X 60 61 2 dX2_put_60 rfl rfl rfl ?_
      refine gx_i2s X 61 62 dX2_put_61 rfl ?_
      refine gx_iastore X 62 63 q0 hq0 hr0 dX2_put_62 rfl (fun m5 => ?_)
      refine gx_goto X 63 73 dX2_put_63 rfl ?_
      refine gx_sub [] rfl ?_
      exact hk_73 m5
    refine gx_look X 16 66 (off := 50) dX2_put_16 (by decide) (by have ghc16_0 := mm_neI 0 (by decide) hc16_0; have ghc16_1 := mm_neI 1 (by decide) hc16_1; simp [Op.lookupswitch.offset]; omega) rfl ?_
    refine gx_aload_n X 66 67 0 dX2_put_66 rfl rfl rfl ?_
    refine gx_getR X 67 70 k0 hk0 hs0 rfl fg_X2_15 dX2_put_67 rfl ?_
    refine gx_iload_n X 70 71 1 dX2_put_70 rfl rfl rfl ?_
    refine gx_iload_n X 71 72 2 dX2_put_71 rfl rfl rfl ?_
    refine gx_iastore X 72 73 q0 hq0 hr0 dX2_put_72 rfl (fun m6 => ?_)
    refine gx_sub [] rfl ?_
    exact hk_73 m6
  exact gx_vret X 11 hr dX2_put_11
def fX4_put (a1 : Int32) (μ : Mm) : Aa := mm_lt (fun (m1 : Mm) => some (0, m1)) (fun (k_29 : Mm → Aa) => if 80 ≤ (μ 27 0) then (k_29 μ) else (mm_ck (μ 27 0) 80 (mm_lt (mm_wr μ 28 (μ 27 0).toNatClampNeg a1) (fun (m2 : Mm) => mm_lt (mm_wr m2 27 0 ((m2 27 0) + 1)) (fun (m3 : Mm) => k_29 m3)))))
abbrev rX4_put : Room := { frames := 0, cells := 0, slots := 0, locals := 0 }
set_option maxRecDepth 100000 in
set_option maxHeartbeats 8000000 in
theorem tX4_put {l : Launch} {D : va_G} {cA : Nat → ClassId} {adr : Nat → Nat} {tt sK sV : Nat → Nat} {qv : Value} (hJ : mm_J adr NX) (a1 : Int32) (μ : Mm) : mm_Mv l D cA adr sX NX (mm_SX (mm_A adr NX) tt sK sV qv) yX4_put cX4_put 2 none rX4_put [.ref (adr 27), .int a1] μ (fX4_put a1 μ) := by
  refine mm_entryv hJ mm_okX (by decide) (Nat.le_of_ble_eq_true rfl) ⟨rfl, rfl⟩ (fun p e s m below meth c X hr => ?_)
  generalize ([.ref (adr 27), .int a1] : List Value).toArray = args at X ⊢
  refine gx_lv (lv' := [(0, .ref (adr 27)), (1, .int a1)]) rfl ?_
  unfold fX4_put
  refine gx_aload_n X 0 1 0 dX4_put_0 rfl rfl rfl ?_
  refine gx_getI X 1 4 27 (by decide) rfl rfl fg_X4_15 dX4_put_1 rfl ?_
  refine gx_bipush X 4 6 (80) dX4_put_4 rfl cb_80 ?_
  refine gx_jn (fun (k : Mm → Aa) => ∀ (m1 : Mm), mm_G p l e rX4_put s m args below meth c 2 D cA adr sX NX (mm_Qv D cA adr sX NX) m1 29 [] [] (k m1)) ?_ (fun k_29 hk_29 => ?_)
  · intro m1
    exact gx_vret X 29 hr dX4_put_29
  refine gx_icmp_ge X 6 29 9 dX4_put_6 rfl rfl ?_ ?_
  · refine gx_sub [] rfl ?_
    exact hk_29 μ
  refine gx_aload_n X 9 10 0 dX4_put_9 rfl rfl rfl ?_
  refine gx_getR X 10 13 27 (by decide) rfl rfl fg_X4_9 dX4_put_10 rfl ?_
  refine gx_aload_n X 13 14 0 dX4_put_13 rfl rfl rfl ?_
  refine gx_getI X 14 17 27 (by decide) rfl rfl fg_X4_15 dX4_put_14 rfl ?_
  refine gx_iload_n X 17 18 1 dX4_put_17 rfl rfl rfl ?_
  refine gx_iastore X 18 19 28 (by decide) rfl dX4_put_18 rfl (fun m2 => ?_)
  refine gx_aload_n X 19 20 0 dX4_put_19 rfl rfl rfl ?_
  refine gx_dup X 20 21 dX4_put_20 rfl rfl ?_
  refine gx_getI X 21 24 27 (by decide) rfl rfl fg_X4_15 dX4_put_21 rfl ?_
  refine gx_iconst X 24 25 (1) dX4_put_24 rfl ci_1 ?_
  refine gx_iadd X 25 26 dX4_put_25 rfl ?_
  refine gx_putI X 26 29 27 (by decide) rfl rfl fp_X4_15 dX4_put_26 rfl (fun m3 => ?_)
  refine gx_sub [] rfl ?_
  exact hk_29 m3
def fX4_peek_L0 (k_38 : Mm → Aa) (rec_0 : Mm → Aa) (m4 : Mm) : Aa := if (m4 27 0) ≤ (m4 27 1) then (k_38 m4) else (mm_ck (m4 27 1) 80 (if (m4 28 (m4 27 1).toNatClampNeg) = 32 then (mm_lt (mm_wr m4 27 1 ((m4 27 1) + 1)) (fun (m5 : Mm) => rec_0 m5)) else (k_38 m4)))
def fX4_peek (μ : Mm) : Aa := mm_lt (fun (m1 : Mm) => mm_lt (fun (x2 : Int32) (m3 : Mm) => some (x2, m3)) (fun (k_62 : Int32 → Mm → Aa) => if (m1 27 0) ≤ (m1 27 1) then (k_62 ((-1)) m1) else (mm_ck (m1 27 1) 80 (k_62 (m1 28 (m1 27 1).toNatClampNeg) m1)))) (fun (k_38 : Mm → Aa) => mm_lk (fun (_ : Mm) => (none : Aa)) (fX4_peek_L0 k_38) mm_fu μ)
abbrev rX4_peek : Room := { frames := 0, cells := 0, slots := 0, locals := 0 }
set_option maxRecDepth 100000 in
set_option maxHeartbeats 8000000 in
theorem tX4_peek {l : Launch} {D : va_G} {cA : Nat → ClassId} {adr : Nat → Nat} {tt sK sV : Nat → Nat} {qv : Value} (hJ : mm_J adr NX) (μ : Mm) : mm_Mi l D cA adr sX NX (mm_SX (mm_A adr NX) tt sK sV qv) yX4_peek cX4_peek 1 (some .int) rX4_peek [.ref (adr 27)] μ (fX4_peek μ) := by
  refine mm_entryi hJ mm_okX (by decide) (Nat.le_of_ble_eq_true rfl) ⟨rfl, rfl⟩ (fun p e s m below meth c X hr => ?_)
  generalize ([.ref (adr 27)] : List Value).toArray = args at X ⊢
  refine gx_lv (lv' := [(0, .ref (adr 27))]) rfl ?_
  unfold fX4_peek
  refine gx_jn (fun (k : Mm → Aa) => ∀ (m1 : Mm), mm_G p l e rX4_peek s m args below meth c 1 D cA adr sX NX (mm_Qi D cA adr sX NX) m1 38 [(0, .ref (adr 27))] [] (k m1)) ?_ (fun k_38 hk_38 => ?_)
  · intro m1
    refine gx_aload_n X 38 39 0 dX4_peek_38 rfl rfl rfl ?_
    refine gx_getI X 39 42 27 (by decide) rfl rfl fg_X4_19 dX4_peek_39 rfl ?_
    refine gx_aload_n X 42 43 0 dX4_peek_42 rfl rfl rfl ?_
    refine gx_getI X 43 46 27 (by decide) rfl rfl fg_X4_15 dX4_peek_43 rfl ?_
    refine gx_jn (fun (k : Int32 → Mm → Aa) => ∀ (x2 : Int32) (m3 : Mm), mm_G p l e rX4_peek s m args below meth c 1 D cA adr sX NX (mm_Qi D cA adr sX NX) m3 62 [] [.int x2] (k x2 m3)) ?_ (fun k_62 hk_62 => ?_)
    · intro x2 m3
      exact gx_iret X 62 hr dX4_peek_62
    refine gx_icmp_ge X 46 61 49 dX4_peek_46 rfl rfl ?_ ?_
    · refine gx_iconst X 61 62 (-1) dX4_peek_61 rfl ci_m1 ?_
      refine gx_sub [] rfl ?_
      exact hk_62 ((-1)) m1
    refine gx_aload_n X 49 50 0 dX4_peek_49 rfl rfl rfl ?_
    refine gx_getR X 50 53 27 (by decide) rfl rfl fg_X4_9 dX4_peek_50 rfl ?_
    refine gx_aload_n X 53 54 0 dX4_peek_53 rfl rfl rfl ?_
    refine gx_getI X 54 57 27 (by decide) rfl rfl fg_X4_19 dX4_peek_54 rfl ?_
    refine gx_iaload X 57 58 28 (by decide) rfl dX4_peek_57 rfl ?_
    refine gx_goto X 58 62 dX4_peek_58 rfl ?_
    refine gx_sub [] rfl ?_
    exact hk_62 (m1 28 (m1 27 1).toNatClampNeg) m1
  refine mm_lk_ind (fun (rec : Mm → Aa) => ∀ (m4 : Mm), mm_G p l e rX4_peek s m args below meth c 1 D cA adr sX NX (mm_Qi D cA adr sX NX) m4 0 [(0, .ref (adr 27))] [] (rec m4)) (fun _ => gx_none) (fun rec_0 hr_0 m4 => ?_) mm_fu μ
  unfold fX4_peek_L0
  refine gx_aload_n X 0 1 0 dX4_peek_0 rfl rfl rfl ?_
  refine gx_getI X 1 4 27 (by decide) rfl rfl fg_X4_19 dX4_peek_1 rfl ?_
  refine gx_aload_n X 4 5 0 dX4_peek_4 rfl rfl rfl ?_
  refine gx_getI X 5 8 27 (by decide) rfl rfl fg_X4_15 dX4_peek_5 rfl ?_
  refine gx_icmp_ge X 8 38 11 dX4_peek_8 rfl rfl ?_ ?_
  · exact hk_38 m4
  refine gx_aload_n X 11 12 0 dX4_peek_11 rfl rfl rfl ?_
  refine gx_getR X 12 15 27 (by decide) rfl rfl fg_X4_9 dX4_peek_12 rfl ?_
  refine gx_aload_n X 15 16 0 dX4_peek_15 rfl rfl rfl ?_
  refine gx_getI X 16 19 27 (by decide) rfl rfl fg_X4_19 dX4_peek_16 rfl ?_
  refine gx_iaload X 19 20 28 (by decide) rfl dX4_peek_19 rfl ?_
  refine gx_bipush X 20 22 (32) dX4_peek_20 rfl cb_32 ?_
  refine gx_icmp_ne X 22 38 25 dX4_peek_22 rfl rfl ?_ ?_
  · exact hk_38 m4
  refine gx_aload_n X 25 26 0 dX4_peek_25 rfl rfl rfl ?_
  refine gx_dup X 26 27 dX4_peek_26 rfl rfl ?_
  refine gx_getI X 27 30 27 (by decide) rfl rfl fg_X4_19 dX4_peek_27 rfl ?_
  refine gx_iconst X 30 31 (1) dX4_peek_30 rfl ci_1 ?_
  refine gx_iadd X 31 32 dX4_peek_31 rfl ?_
  refine gx_putI X 32 35 27 (by decide) rfl rfl fp_X4_19 dX4_peek_32 rfl (fun m5 => ?_)
  refine gx_goto X 35 0 dX4_peek_35 rfl ?_
  exact hr_0 m5
def fX4_fault (μ : Mm) : Aa := some (((-20)) - (μ 27 1), μ)
abbrev rX4_fault : Room := { frames := 0, cells := 0, slots := 0, locals := 0 }
set_option maxRecDepth 100000 in
set_option maxHeartbeats 8000000 in
theorem tX4_fault {l : Launch} {D : va_G} {cA : Nat → ClassId} {adr : Nat → Nat} {tt sK sV : Nat → Nat} {qv : Value} (hJ : mm_J adr NX) (μ : Mm) : mm_Mi l D cA adr sX NX (mm_SX (mm_A adr NX) tt sK sV qv) yX4_fault cX4_fault 1 (some .int) rX4_fault [.ref (adr 27)] μ (fX4_fault μ) := by
  refine mm_entryi hJ mm_okX (by decide) (Nat.le_of_ble_eq_true rfl) ⟨rfl, rfl⟩ (fun p e s m below meth c X hr => ?_)
  generalize ([.ref (adr 27)] : List Value).toArray = args at X ⊢
  refine gx_lv (lv' := [(0, .ref (adr 27))]) rfl ?_
  unfold fX4_fault
  refine gx_bipush X 0 2 (-20) dX4_fault_0 rfl cb_m20 ?_
  refine gx_aload_n X 2 3 0 dX4_fault_2 rfl rfl rfl ?_
  refine gx_getI X 3 6 27 (by decide) rfl rfl fg_X4_19 dX4_fault_3 rfl ?_
  refine gx_isub X 6 7 dX4_fault_6 rfl ?_
  exact gx_iret X 7 hr dX4_fault_7
def fX4_readNumber_L13 (k_90 : Int32 → Mm → Aa) (rec_13 : Int32 → Mm → Aa) (x9 : Int32) (m10 : Mm) : Aa := if (m10 27 0) ≤ (m10 27 1) then (k_90 x9 m10) else (mm_ck (m10 27 1) 80 (if (m10 28 (m10 27 1).toNatClampNeg) < 48 then (k_90 x9 m10) else (mm_ck (m10 27 1) 80 (if 57 < (m10 28 (m10 27 1).toNatClampNeg) then (k_90 x9 m10) else (mm_ck (m10 27 1) 80 (mm_lt (if 100000 < (((x9 * 10) + (m10 28 (m10 27 1).toNatClampNeg)) - 48) then 100000 else (((x9 * 10) + (m10 28 (m10 27 1).toNatClampNeg)) - 48)) (fun (x11 : Int32) => mm_lt (mm_wr m10 27 1 ((m10 27 1) + 1)) (fun (m12 : Mm) => rec_13 x11 m12))))))))
def fX4_readNumber (a1 : Int32) (a2 : Int32) (μ : Mm) : Aa := mm_cl (fX4_peek μ) (fun (x1 : Int32) (m2 : Mm) => mm_lt (m2 27 1) (fun (x3 : Int32) => mm_lt 0 (fun (x4 : Int32) => mm_lt (fun (x5 : Int32) (m6 : Mm) => mm_lt (fun (m7 : Mm) => mm_lt (mm_wr m7 27 1 x3) (fun (m8 : Mm) => some ((-1), m8))) (fun (k_110 : Mm → Aa) => if (m6 27 1) = x3 then (k_110 m6) else (if x5 < a1 then (k_110 m6) else (if x5 ≤ a2 then (some (x5, m6)) else (k_110 m6))))) (fun (k_90 : Int32 → Mm → Aa) => mm_lk (fun (_ : Int32) (_ : Mm) => (none : Aa)) (fX4_readNumber_L13 k_90) mm_fu x4 m2))))
abbrev rX4_readNumber : Room := { frames := 1, cells := 0, slots := 0, locals := 21 }
set_option maxRecDepth 100000 in
set_option maxHeartbeats 8000000 in
theorem tX4_readNumber {l : Launch} {D : va_G} {cA : Nat → ClassId} {adr : Nat → Nat} {tt sK sV : Nat → Nat} {qv : Value} (hJ : mm_J adr NX) (a1 : Int32) (a2 : Int32) (μ : Mm) : mm_Mi l D cA adr sX NX (mm_SX (mm_A adr NX) tt sK sV qv) yX4_readNumber cX4_readNumber 5 (some .int) rX4_readNumber [.ref (adr 27), .int a1, .int a2] μ (fX4_readNumber a1 a2 μ) := by
  refine mm_entryi hJ mm_okX (by decide) (Nat.le_of_ble_eq_true rfl) ⟨rfl, rfl⟩ (fun p e s m below meth c X hr => ?_)
  generalize ([.ref (adr 27), .int a1, .int a2] : List Value).toArray = args at X ⊢
  refine gx_lv (lv' := [(0, .ref (adr 27)), (1, .int a1), (2, .int a2)]) rfl ?_
  unfold fX4_readNumber
  refine gx_aload_n X 0 1 0 dX4_readNumber_0 rfl rfl rfl ?_
  refine gx_calliV X 1 4 27 (rest := []) (As := []) (tX4_peek hJ μ) (by decide) rfl rfl wc_X4_peek wl_X4_22 wi_X4_peek ws_X4_peek wn_X4 rfl hd_X4_peek ⟨Nat.le_of_ble_eq_true rfl, Nat.le_of_ble_eq_true rfl⟩ ⟨rfl, rfl⟩ rfl rfl (Nat.le_of_ble_eq_true rfl) dX4_readNumber_1 rfl (fun x1 m2 => ?_)
  refine gx_pop X 4 5 dX4_readNumber_4 rfl rfl ?_
  refine gx_aload_n X 5 6 0 dX4_readNumber_5 rfl rfl rfl ?_
  refine gx_getI X 6 9 27 (by decide) rfl rfl fg_X4_19 dX4_readNumber_6 rfl ?_
  refine gx_istore_n X 9 10 (fun x3 => [(3, .int x3), (0, .ref (adr 27)), (1, .int a1), (2, .int a2)]) dX4_readNumber_9 rfl rfl (by decide) (fun _ => rfl) (fun x3 => ?_)
  refine gx_iconst X 10 11 (0) dX4_readNumber_10 rfl ci_0 ?_
  refine gx_istore X 11 13 (fun x4 => [(4, .int x4), (3, .int x3), (0, .ref (adr 27)), (1, .int a1), (2, .int a2)]) dX4_readNumber_11 rfl (by decide) (fun _ => rfl) (fun x4 => ?_)
  refine gx_jn (fun (k : Int32 → Mm → Aa) => ∀ (x5 : Int32) (m6 : Mm), mm_G p l e rX4_readNumber s m args below meth c 5 D cA adr sX NX (mm_Qi D cA adr sX NX) m6 90 [(0, .ref (adr 27)), (1, .int a1), (2, .int a2), (3, .int x3), (4, .int x5)] [] (k x5 m6)) ?_ (fun k_90 hk_90 => ?_)
  · intro x5 m6
    refine gx_aload_n X 90 91 0 dX4_readNumber_90 rfl rfl rfl ?_
    refine gx_getI X 91 94 27 (by decide) rfl rfl fg_X4_19 dX4_readNumber_91 rfl ?_
    refine gx_iload_n X 94 95 3 dX4_readNumber_94 rfl rfl rfl ?_
    refine gx_jn (fun (k : Mm → Aa) => ∀ (m7 : Mm), mm_G p l e rX4_readNumber s m args below meth c 5 D cA adr sX NX (mm_Qi D cA adr sX NX) m7 110 [(0, .ref (adr 27)), (3, .int x3)] [] (k m7)) ?_ (fun k_110 hk_110 => ?_)
    · intro m7
      refine gx_aload_n X 110 111 0 dX4_readNumber_110 rfl rfl rfl ?_
      refine gx_iload_n X 111 112 1 dX4_readNumber_111 rfl rfl rfl ?_
      refine gx_putI X 112 115 27 (by decide) rfl rfl fp_X4_19 dX4_readNumber_112 rfl (fun m8 => ?_)
      refine gx_iconst X 115 116 (-1) dX4_readNumber_115 rfl ci_m1 ?_
      exact gx_iret X 116 hr dX4_readNumber_116
    refine gx_icmp_eq X 95 110 98 dX4_readNumber_95 rfl rfl ?_ ?_
    · refine gx_sub [0, 3] rfl ?_
      exact hk_110 m6
    refine gx_iload X 98 100 4 dX4_readNumber_98 rfl rfl ?_
    refine gx_iload_n X 100 101 1 dX4_readNumber_100 rfl rfl rfl ?_
    refine gx_icmp_lt X 101 110 104 dX4_readNumber_101 rfl rfl ?_ ?_
    · refine gx_sub [0, 3] rfl ?_
      exact hk_110 m6
    refine gx_iload X 104 106 4 dX4_readNumber_104 rfl rfl ?_
    refine gx_iload_n X 106 107 2 dX4_readNumber_106 rfl rfl rfl ?_
    refine gx_icmp_le X 107 117 110 dX4_readNumber_107 rfl rfl ?_ ?_
    · refine gx_iload X 117 119 4 dX4_readNumber_117 rfl rfl ?_
      exact gx_iret X 119 hr dX4_readNumber_119
    refine gx_sub [0, 3] rfl ?_
    exact hk_110 m6
  refine gx_sub [2, 3, 4, 1, 0] rfl ?_
  refine mm_lk_ind (fun (rec : Int32 → Mm → Aa) => ∀ (x9 : Int32) (m10 : Mm), mm_G p l e rX4_readNumber s m args below meth c 5 D cA adr sX NX (mm_Qi D cA adr sX NX) m10 13 [(0, .ref (adr 27)), (1, .int a1), (2, .int a2), (3, .int x3), (4, .int x9)] [] (rec x9 m10)) (fun _ _ => gx_none) (fun rec_13 hr_13 x9 m10 => ?_) mm_fu x4 m2
  unfold fX4_readNumber_L13
  refine gx_aload_n X 13 14 0 dX4_readNumber_13 rfl rfl rfl ?_
  refine gx_getI X 14 17 27 (by decide) rfl rfl fg_X4_19 dX4_readNumber_14 rfl ?_
  refine gx_aload_n X 17 18 0 dX4_readNumber_17 rfl rfl rfl ?_
  refine gx_getI X 18 21 27 (by decide) rfl rfl fg_X4_15 dX4_readNumber_18 rfl ?_
  refine gx_icmp_ge X 21 90 24 dX4_readNumber_21 rfl rfl ?_ ?_
  · exact hk_90 x9 m10
  refine gx_aload_n X 24 25 0 dX4_readNumber_24 rfl rfl rfl ?_
  refine gx_getR X 25 28 27 (by decide) rfl rfl fg_X4_9 dX4_readNumber_25 rfl ?_
  refine gx_aload_n X 28 29 0 dX4_readNumber_28 rfl rfl rfl ?_
  refine gx_getI X 29 32 27 (by decide) rfl rfl fg_X4_19 dX4_readNumber_29 rfl ?_
  refine gx_iaload X 32 33 28 (by decide) rfl dX4_readNumber_32 rfl ?_
  refine gx_bipush X 33 35 (48) dX4_readNumber_33 rfl cb_48 ?_
  refine gx_icmp_lt X 35 90 38 dX4_readNumber_35 rfl rfl ?_ ?_
  · exact hk_90 x9 m10
  refine gx_aload_n X 38 39 0 dX4_readNumber_38 rfl rfl rfl ?_
  refine gx_getR X 39 42 27 (by decide) rfl rfl fg_X4_9 dX4_readNumber_39 rfl ?_
  refine gx_aload_n X 42 43 0 dX4_readNumber_42 rfl rfl rfl ?_
  refine gx_getI X 43 46 27 (by decide) rfl rfl fg_X4_19 dX4_readNumber_43 rfl ?_
  refine gx_iaload X 46 47 28 (by decide) rfl dX4_readNumber_46 rfl ?_
  refine gx_bipush X 47 49 (57) dX4_readNumber_47 rfl cb_57 ?_
  refine gx_icmp_gt X 49 90 52 dX4_readNumber_49 rfl rfl ?_ ?_
  · exact hk_90 x9 m10
  refine gx_iload X 52 54 4 dX4_readNumber_52 rfl rfl ?_
  refine gx_bipush X 54 56 (10) dX4_readNumber_54 rfl cb_10 ?_
  refine gx_imul X 56 57 dX4_readNumber_56 rfl ?_
  refine gx_aload_n X 57 58 0 dX4_readNumber_57 rfl rfl rfl ?_
  refine gx_getR X 58 61 27 (by decide) rfl rfl fg_X4_9 dX4_readNumber_58 rfl ?_
  refine gx_aload_n X 61 62 0 dX4_readNumber_61 rfl rfl rfl ?_
  refine gx_getI X 62 65 27 (by decide) rfl rfl fg_X4_19 dX4_readNumber_62 rfl ?_
  refine gx_iaload X 65 66 28 (by decide) rfl dX4_readNumber_65 rfl ?_
  refine gx_iadd X 66 67 dX4_readNumber_66 rfl ?_
  refine gx_bipush X 67 69 (48) dX4_readNumber_67 rfl cb_48 ?_
  refine gx_isub X 69 70 dX4_readNumber_69 rfl ?_
  refine gx_ldc X 70 72 wk_X4_72 dX4_readNumber_70 rfl ?_
  refine gx_mmin X 72 75 wl_X4_73 wt_Mmin wn_J9 wc_Mmin (by decide) (Nat.le_of_ble_eq_true rfl) dX4_readNumber_72 rfl ?_
  refine gx_istore X 75 77 (fun x11 => [(4, .int x11), (0, .ref (adr 27)), (1, .int a1), (2, .int a2), (3, .int x3)]) dX4_readNumber_75 rfl (by decide) (fun _ => rfl) (fun x11 => ?_)
  refine gx_aload_n X 77 78 1 dX4_readNumber_77 rfl rfl rfl ?_
  refine gx_dup X 78 79 dX4_readNumber_78 rfl rfl ?_
  refine gx_getI X 79 82 27 (by decide) rfl rfl fg_X4_19 dX4_readNumber_79 rfl ?_
  refine gx_iconst X 82 83 (1) dX4_readNumber_82 rfl ci_1 ?_
  refine gx_iadd X 83 84 dX4_readNumber_83 rfl ?_
  refine gx_putI X 84 87 27 (by decide) rfl rfl fp_X4_19 dX4_readNumber_84 rfl (fun m12 => ?_)
  refine gx_goto X 87 13 dX4_readNumber_87 rfl ?_
  refine gx_sub [1, 2, 3, 4, 0] rfl ?_
  exact hr_13 x11 m12
def fX4_readTrips (μ : Mm) : Aa := mm_cl (fX4_peek μ) (fun (x1 : Int32) (m2 : Mm) => if x1 = 116 then (mm_lt (mm_wr m2 27 1 ((m2 27 1) + 1)) (fun (m3 : Mm) => mm_cl (fX4_peek m3) (fun (x4 : Int32) (m5 : Mm) => mm_lt (x4 - 48) (fun (x6 : Int32) => mm_ck 4 6 (mm_lt (fun (m7 : Mm) => some ((-1), m7)) (fun (k_47 : Mm → Aa) => if x6 < ((mm_stV 3).getD (4 : Int32).toNatClampNeg 0) then (k_47 m5) else (mm_ck 4 6 (if x6 ≤ ((mm_stV 4).getD (4 : Int32).toNatClampNeg 0) then (mm_lt (mm_wr m5 27 1 ((m5 27 1) + 1)) (fun (m8 : Mm) => some (x6, m8))) else (k_47 m5))))))))) else (some (1, m2)))
abbrev rX4_readTrips : Room := { frames := 1, cells := 0, slots := 0, locals := 20 }
set_option maxRecDepth 100000 in
set_option maxHeartbeats 8000000 in
theorem tX4_readTrips {l : Launch} {D : va_G} {cA : Nat → ClassId} {adr : Nat → Nat} {tt sK sV : Nat → Nat} {qv : Value} (hJ : mm_J adr NX) (μ : Mm) : mm_Mi l D cA adr sX NX (mm_SX (mm_A adr NX) tt sK sV qv) yX4_readTrips cX4_readTrips 2 (some .int) rX4_readTrips [.ref (adr 27)] μ (fX4_readTrips μ) := by
  refine mm_entryi hJ mm_okX (by decide) (Nat.le_of_ble_eq_true rfl) ⟨rfl, rfl⟩ (fun p e s m below meth c X hr => ?_)
  generalize ([.ref (adr 27)] : List Value).toArray = args at X ⊢
  refine gx_lv (lv' := [(0, .ref (adr 27))]) rfl ?_
  unfold fX4_readTrips
  refine gx_aload_n X 0 1 0 dX4_readTrips_0 rfl rfl rfl ?_
  refine gx_calliV X 1 4 27 (rest := []) (As := []) (tX4_peek hJ μ) (by decide) rfl rfl wc_X4_peek wl_X4_22 wi_X4_peek ws_X4_peek wn_X4 rfl hd_X4_peek ⟨Nat.le_of_ble_eq_true rfl, Nat.le_of_ble_eq_true rfl⟩ ⟨rfl, rfl⟩ rfl rfl (Nat.le_of_ble_eq_true rfl) dX4_readTrips_1 rfl (fun x1 m2 => ?_)
  refine gx_bipush X 4 6 (116) dX4_readTrips_4 rfl cb_116 ?_
  refine gx_icmp_eq X 6 11 9 dX4_readTrips_6 rfl rfl ?_ ?_
  · refine gx_aload_n X 11 12 0 dX4_readTrips_11 rfl rfl rfl ?_
    refine gx_dup X 12 13 dX4_readTrips_12 rfl rfl ?_
    refine gx_getI X 13 16 27 (by decide) rfl rfl fg_X4_19 dX4_readTrips_13 rfl ?_
    refine gx_iconst X 16 17 (1) dX4_readTrips_16 rfl ci_1 ?_
    refine gx_iadd X 17 18 dX4_readTrips_17 rfl ?_
    refine gx_putI X 18 21 27 (by decide) rfl rfl fp_X4_19 dX4_readTrips_18 rfl (fun m3 => ?_)
    refine gx_aload_n X 21 22 0 dX4_readTrips_21 rfl rfl rfl ?_
    refine gx_calliV X 22 25 27 (rest := []) (As := []) (tX4_peek hJ m3) (by decide) rfl rfl wc_X4_peek wl_X4_22 wi_X4_peek ws_X4_peek wn_X4 rfl hd_X4_peek ⟨Nat.le_of_ble_eq_true rfl, Nat.le_of_ble_eq_true rfl⟩ ⟨rfl, rfl⟩ rfl rfl (Nat.le_of_ble_eq_true rfl) dX4_readTrips_22 rfl (fun x4 m5 => ?_)
    refine gx_bipush X 25 27 (48) dX4_readTrips_25 rfl cb_48 ?_
    refine gx_isub X 27 28 dX4_readTrips_27 rfl ?_
    refine gx_istore_n X 28 29 (fun x6 => [(1, .int x6), (0, .ref (adr 27))]) dX4_readTrips_28 rfl rfl (by decide) (fun _ => rfl) (fun x6 => ?_)
    refine gx_iload_n X 29 30 0 dX4_readTrips_29 rfl rfl rfl ?_
    refine gx_getSN X 30 33 3 (by decide) (List.mem_of_getElem? (i := 5) rfl) dX4_readTrips_30 rfl ?_
    refine gx_iconst X 33 34 (4) dX4_readTrips_33 rfl ci_4 ?_
    refine gx_sload X 34 35 3 (by decide) rfl dX4_readTrips_34 rfl ?_
    refine gx_jn (fun (k : Mm → Aa) => ∀ (m7 : Mm), mm_G p l e rX4_readTrips s m args below meth c 2 D cA adr sX NX (mm_Qi D cA adr sX NX) m7 47 [] [] (k m7)) ?_ (fun k_47 hk_47 => ?_)
    · intro m7
      refine gx_iconst X 47 48 (-1) dX4_readTrips_47 rfl ci_m1 ?_
      exact gx_iret X 48 hr dX4_readTrips_48
    refine gx_icmp_lt X 35 47 38 dX4_readTrips_35 rfl rfl ?_ ?_
    · refine gx_sub [] rfl ?_
      exact hk_47 m5
    refine gx_iload_n X 38 39 0 dX4_readTrips_38 rfl rfl rfl ?_
    refine gx_getSN X 39 42 4 (by decide) (List.mem_of_getElem? (i := 6) rfl) dX4_readTrips_39 rfl ?_
    refine gx_iconst X 42 43 (4) dX4_readTrips_42 rfl ci_4 ?_
    refine gx_sload X 43 44 4 (by decide) rfl dX4_readTrips_43 rfl ?_
    refine gx_icmp_le X 44 49 47 dX4_readTrips_44 rfl rfl ?_ ?_
    · refine gx_aload_n X 49 50 1 dX4_readTrips_49 rfl rfl rfl ?_
      refine gx_dup X 50 51 dX4_readTrips_50 rfl rfl ?_
      refine gx_getI X 51 54 27 (by decide) rfl rfl fg_X4_19 dX4_readTrips_51 rfl ?_
      refine gx_iconst X 54 55 (1) dX4_readTrips_54 rfl ci_1 ?_
      refine gx_iadd X 55 56 dX4_readTrips_55 rfl ?_
      refine gx_putI X 56 59 27 (by decide) rfl rfl fp_X4_19 dX4_readTrips_56 rfl (fun m8 => ?_)
      refine gx_iload_n X 59 60 0 dX4_readTrips_59 rfl rfl rfl ?_
      exact gx_iret X 60 hr dX4_readTrips_60
    refine gx_sub [] rfl ?_
    exact hk_47 m5
  refine gx_iconst X 9 10 (1) dX4_readTrips_9 rfl ci_1 ?_
  exact gx_iret X 10 hr dX4_readTrips_10
def fX4_readLetter (i1 : Nat) (μ : Mm) : Aa := mm_cl (fX4_peek μ) (fun (x1 : Int32) (m2 : Mm) => mm_lt x1 (fun (x3 : Int32) => mm_lt (fun (x4 : Int32) (m5 : Mm) => mm_lt x4 (fun (x6 : Int32) => mm_lt (fun (m7 : Mm) => some (x6, m7)) (fun (k_35 : Mm → Aa) => if x6 < 0 then (k_35 m5) else (mm_lt (mm_wr m5 27 1 ((m5 27 1) + 1)) (fun (m8 : Mm) => k_35 m8))))) (fun (k_20 : Int32 → Mm → Aa) => if x3 = ((-1)) then (k_20 ((-1)) m2) else (mm_cl (fJ0_indexOf i1 ((x3.toUInt32 % 65536).toInt32) m2) (fun (x9 : Int32) (m10 : Mm) => k_20 x9 m10)))))
abbrev rX4_readLetter : Room := { frames := 4, cells := 0, slots := 0, locals := 91 }
set_option maxRecDepth 100000 in
set_option maxHeartbeats 8000000 in
theorem tX4_readLetter {l : Launch} {D : va_G} {cA : Nat → ClassId} {adr : Nat → Nat} {tt sK sV : Nat → Nat} {qv : Value} (hJ : mm_J adr NX) (i1 : Nat) (hi1 : i1 < 3) (μ : Mm) : mm_Mi l D cA adr sX NX (mm_SX (mm_A adr NX) tt sK sV qv) yX4_readLetter cX4_readLetter 4 (some .int) rX4_readLetter [.ref (adr 27), .ref (sK i1)] μ (fX4_readLetter i1 μ) := by
  refine mm_entryi hJ mm_okX (by decide) (Nat.le_of_ble_eq_true rfl) ⟨rfl, rfl⟩ (fun p e s m below meth c X hr => ?_)
  generalize ([.ref (adr 27), .ref (sK i1)] : List Value).toArray = args at X ⊢
  refine gx_lv (lv' := [(0, .ref (adr 27)), (1, .ref (sK i1))]) rfl ?_
  unfold fX4_readLetter
  refine gx_aload_n X 0 1 0 dX4_readLetter_0 rfl rfl rfl ?_
  refine gx_calliV X 1 4 27 (rest := []) (As := []) (tX4_peek hJ μ) (by decide) rfl rfl wc_X4_peek wl_X4_22 wi_X4_peek ws_X4_peek wn_X4 rfl hd_X4_peek ⟨Nat.le_of_ble_eq_true rfl, Nat.le_of_ble_eq_true rfl⟩ ⟨rfl, rfl⟩ rfl rfl (Nat.le_of_ble_eq_true rfl) dX4_readLetter_1 rfl (fun x1 m2 => ?_)
  refine gx_istore_n X 4 5 (fun x3 => [(2, .int x3), (0, .ref (adr 27)), (1, .ref (sK i1))]) dX4_readLetter_4 rfl rfl (by decide) (fun _ => rfl) (fun x3 => ?_)
  refine gx_iload_n X 5 6 0 dX4_readLetter_5 rfl rfl rfl ?_
  refine gx_iconst X 6 7 (-1) dX4_readLetter_6 rfl ci_m1 ?_
  refine gx_jn (fun (k : Int32 → Mm → Aa) => ∀ (x4 : Int32) (m5 : Mm), mm_G p l e rX4_readLetter s m args below meth c 4 D cA adr sX NX (mm_Qi D cA adr sX NX) m5 20 [(0, .ref (adr 27))] [.int x4] (k x4 m5)) ?_ (fun k_20 hk_20 => ?_)
  · intro x4 m5
    refine gx_istore_n X 20 21 (fun x6 => [(3, .int x6), (0, .ref (adr 27))]) dX4_readLetter_20 rfl rfl (by decide) (fun _ => rfl) (fun x6 => ?_)
    refine gx_iload_n X 21 22 0 dX4_readLetter_21 rfl rfl rfl ?_
    refine gx_jn (fun (k : Mm → Aa) => ∀ (m7 : Mm), mm_G p l e rX4_readLetter s m args below meth c 4 D cA adr sX NX (mm_Qi D cA adr sX NX) m7 35 [(3, .int x6)] [] (k m7)) ?_ (fun k_35 hk_35 => ?_)
    · intro m7
      refine gx_iload_n X 35 36 0 dX4_readLetter_35 rfl rfl rfl ?_
      exact gx_iret X 36 hr dX4_readLetter_36
    refine gx_if_lt X 22 35 25 dX4_readLetter_22 rfl rfl ?_ ?_
    · refine gx_sub [0] rfl ?_
      exact hk_35 m5
    refine gx_aload_n X 25 26 1 dX4_readLetter_25 rfl rfl rfl ?_
    refine gx_dup X 26 27 dX4_readLetter_26 rfl rfl ?_
    refine gx_getI X 27 30 27 (by decide) rfl rfl fg_X4_19 dX4_readLetter_27 rfl ?_
    refine gx_iconst X 30 31 (1) dX4_readLetter_30 rfl ci_1 ?_
    refine gx_iadd X 31 32 dX4_readLetter_31 rfl ?_
    refine gx_putI X 32 35 27 (by decide) rfl rfl fp_X4_19 dX4_readLetter_32 rfl (fun m8 => ?_)
    refine gx_sub [0] rfl ?_
    exact hk_35 m8
  refine gx_icmp_ne X 7 14 10 dX4_readLetter_7 rfl rfl ?_ ?_
  · refine gx_aload_n X 14 15 2 dX4_readLetter_14 rfl rfl rfl ?_
    refine gx_iload_n X 15 16 0 dX4_readLetter_15 rfl rfl rfl ?_
    refine gx_i2c X 16 17 dX4_readLetter_16 rfl ?_
    refine gx_calliT X 17 20 i1 (rest := []) (As := [.int ((x3.toUInt32 % 65536).toInt32)]) (tJ0_indexOf hJ i1 ((x3.toUInt32 % 65536).toInt32) hi1 m2) hi1 wc_J0_indexOf_0f7a4 wl_X4_68 wi_J0_indexOf_0f7a4 ws_J0_indexOf_0f7a4 wn_J0 rfl hd_J0_indexOf_0f7a4 ⟨Nat.le_of_ble_eq_true rfl, Nat.le_of_ble_eq_true rfl⟩ ⟨rfl, rfl⟩ rfl rfl (Nat.le_of_ble_eq_true rfl) dX4_readLetter_17 rfl (fun x9 m10 => ?_)
    refine gx_sub [1] rfl ?_
    exact hk_20 x9 m10
  refine gx_iconst X 10 11 (-1) dX4_readLetter_10 rfl ci_m1 ?_
  refine gx_goto X 11 20 dX4_readLetter_11 rfl ?_
  refine gx_sub [1] rfl ?_
  exact hk_20 ((-1)) m2
def fX4_readPerson (a2 : Int32) (μ : Mm) : Aa := mm_lt (fun (m1 : Mm) => mm_bo 0 (some (0, m1))) (fun (k_12 : Mm → Aa) => if a2 < 0 then (k_12 μ) else (if a2 ≤ ((Int32.ofNat 30) - 5) then (mm_ck 0 6 (mm_ck 0 6 (mm_cl (fX4_readNumber ((mm_stV 3).getD (0 : Int32).toNatClampNeg 0) ((mm_stV 4).getD (0 : Int32).toNatClampNeg 0) μ) (fun (x2 : Int32) (m3 : Mm) => mm_ck (a2 + 0) 30 (mm_lt (mm_wr m3 29 (a2 + 0).toNatClampNeg x2) (fun (m4 : Mm) => mm_ck (a2 + 0) 30 (if 0 ≤ (m4 29 (a2 + 0).toNatClampNeg) then (mm_cl (fX4_readLetter 1 m4) (fun (x5 : Int32) (m6 : Mm) => mm_ck (a2 + 1) 30 (mm_lt (mm_wr m6 29 (a2 + 1).toNatClampNeg x5) (fun (m7 : Mm) => mm_ck (a2 + 1) 30 (if 0 ≤ (m7 29 (a2 + 1).toNatClampNeg) then (mm_cl (fX4_readLetter 2 m7) (fun (x8 : Int32) (m9 : Mm) => mm_ck (a2 + 2) 30 (mm_lt (mm_wr m9 29 (a2 + 2).toNatClampNeg x8) (fun (m10 : Mm) => mm_ck (a2 + 2) 30 (if 0 ≤ (m10 29 (a2 + 2).toNatClampNeg) then (mm_ck 3 6 (mm_ck 3 6 (mm_cl (fX4_readNumber ((mm_stV 3).getD (3 : Int32).toNatClampNeg 0) ((mm_stV 4).getD (3 : Int32).toNatClampNeg 0) m10) (fun (x11 : Int32) (m12 : Mm) => mm_ck (a2 + 3) 30 (mm_lt (mm_wr m12 29 (a2 + 3).toNatClampNeg x11) (fun (m13 : Mm) => mm_ck (a2 + 3) 30 (if 0 ≤ (m13 29 (a2 + 3).toNatClampNeg) then (mm_cl (fX4_readTrips m13) (fun (x14 : Int32) (m15 : Mm) => mm_ck (a2 + 4) 30 (mm_lt (mm_wr m15 29 (a2 + 4).toNatClampNeg x14) (fun (m16 : Mm) => mm_ck (a2 + 4) 30 (mm_lt (fun (x17 : Int32) (m18 : Mm) => mm_bo x17 (some (x17, m18))) (fun (k_136 : Int32 → Mm → Aa) => if (m16 29 (a2 + 4).toNatClampNeg) ≤ 0 then (k_136 0 m16) else (k_136 1 m16))))))) else (mm_bo 0 (some (0, m13)))))))))) else (mm_bo 0 (some (0, m10)))))))) else (mm_bo 0 (some (0, m7)))))))) else (mm_bo 0 (some (0, m4)))))))))) else (k_12 μ)))
abbrev rX4_readPerson : Room := { frames := 5, cells := 0, slots := 0, locals := 114 }
set_option maxRecDepth 100000 in
set_option maxHeartbeats 8000000 in
theorem tX4_readPerson {l : Launch} {D : va_G} {cA : Nat → ClassId} {adr : Nat → Nat} {tt sK sV : Nat → Nat} {qv : Value} (hJ : mm_J adr NX) (a2 : Int32) (μ : Mm) : mm_Mi l D cA adr sX NX (mm_SX (mm_A adr NX) tt sK sV qv) yX4_readPerson cX4_readPerson 3 (some .boolean) rX4_readPerson [.ref (adr 27), .ref (adr 29), .int a2] μ (fX4_readPerson a2 μ) := by
  refine mm_entryi hJ mm_okX (by decide) (Nat.le_of_ble_eq_true rfl) ⟨rfl, rfl⟩ (fun p e s m below meth c X hr => ?_)
  generalize ([.ref (adr 27), .ref (adr 29), .int a2] : List Value).toArray = args at X ⊢
  refine gx_lv (lv' := [(0, .ref (adr 27)), (1, .ref (adr 29)), (2, .int a2)]) rfl ?_
  unfold fX4_readPerson
  refine gx_iload_n X 0 1 2 dX4_readPerson_0 rfl rfl rfl ?_
  refine gx_jn (fun (k : Mm → Aa) => ∀ (m1 : Mm), mm_G p l e rX4_readPerson s m args below meth c 3 D cA adr sX NX (mm_Qi D cA adr sX NX) m1 12 [] [] (k m1)) ?_ (fun k_12 hk_12 => ?_)
  · intro m1
    refine gx_iconst X 12 13 (0) dX4_readPerson_12 rfl ci_0 ?_
    exact gx_zret X 13 hr dX4_readPerson_13
  refine gx_if_lt X 1 12 4 dX4_readPerson_1 rfl rfl ?_ ?_
  · refine gx_sub [] rfl ?_
    exact hk_12 μ
  refine gx_iload_n X 4 5 2 dX4_readPerson_4 rfl rfl rfl ?_
  refine gx_aload_n X 5 6 1 dX4_readPerson_5 rfl rfl rfl ?_
  refine gx_alen X 6 7 29 (Int32.ofNat 30) (by decide) rfl rfl dX4_readPerson_6 rfl ?_
  refine gx_iconst X 7 8 (5) dX4_readPerson_7 rfl ci_5 ?_
  refine gx_isub X 8 9 dX4_readPerson_8 rfl ?_
  refine gx_icmp_le X 9 14 12 dX4_readPerson_9 rfl rfl ?_ ?_
  · refine gx_aload_n X 14 15 1 dX4_readPerson_14 rfl rfl rfl ?_
    refine gx_iload_n X 15 16 2 dX4_readPerson_15 rfl rfl rfl ?_
    refine gx_iconst X 16 17 (0) dX4_readPerson_16 rfl ci_0 ?_
    refine gx_iadd X 17 18 dX4_readPerson_17 rfl ?_
    refine gx_aload_n X 18 19 0 dX4_readPerson_18 rfl rfl rfl ?_
    refine gx_getSN X 19 22 3 (by decide) (List.mem_of_getElem? (i := 5) rfl) dX4_readPerson_19 rfl ?_
    refine gx_iconst X 22 23 (0) dX4_readPerson_22 rfl ci_0 ?_
    refine gx_sload X 23 24 3 (by decide) rfl dX4_readPerson_23 rfl ?_
    refine gx_getSN X 24 27 4 (by decide) (List.mem_of_getElem? (i := 6) rfl) dX4_readPerson_24 rfl ?_
    refine gx_iconst X 27 28 (0) dX4_readPerson_27 rfl ci_0 ?_
    refine gx_sload X 28 29 4 (by decide) rfl dX4_readPerson_28 rfl ?_
    refine gx_calliV X 29 32 27 (rest := [.int (a2 + 0), .ref (adr 29)]) (As := [.int ((mm_stV 3).getD (0 : Int32).toNatClampNeg 0), .int ((mm_stV 4).getD (0 : Int32).toNatClampNeg 0)]) (tX4_readNumber hJ ((mm_stV 3).getD (0 : Int32).toNatClampNeg 0) ((mm_stV 4).getD (0 : Int32).toNatClampNeg 0) μ) (by decide) rfl rfl wc_X4_readNumber wl_X4_40 wi_X4_readNumber ws_X4_readNumber wn_X4 rfl hd_X4_readNumber ⟨Nat.le_of_ble_eq_true rfl, Nat.le_of_ble_eq_true rfl⟩ ⟨rfl, rfl⟩ rfl rfl (Nat.le_of_ble_eq_true rfl) dX4_readPerson_29 rfl (fun x2 m3 => ?_)
    refine gx_iastore X 32 33 29 (by decide) rfl dX4_readPerson_32 rfl (fun m4 => ?_)
    refine gx_aload_n X 33 34 1 dX4_readPerson_33 rfl rfl rfl ?_
    refine gx_iload_n X 34 35 2 dX4_readPerson_34 rfl rfl rfl ?_
    refine gx_iconst X 35 36 (0) dX4_readPerson_35 rfl ci_0 ?_
    refine gx_iadd X 36 37 dX4_readPerson_36 rfl ?_
    refine gx_iaload X 37 38 29 (by decide) rfl dX4_readPerson_37 rfl ?_
    refine gx_if_ge X 38 43 41 dX4_readPerson_38 rfl rfl ?_ ?_
    · refine gx_aload_n X 43 44 1 dX4_readPerson_43 rfl rfl rfl ?_
      refine gx_iload_n X 44 45 2 dX4_readPerson_44 rfl rfl rfl ?_
      refine gx_iconst X 45 46 (1) dX4_readPerson_45 rfl ci_1 ?_
      refine gx_iadd X 46 47 dX4_readPerson_46 rfl ?_
      refine gx_aload_n X 47 48 0 dX4_readPerson_47 rfl rfl rfl ?_
      refine gx_ldcS1 X 48 50 dX4_readPerson_48 rfl ?_
      refine gx_calliV X 50 53 27 (rest := [.int (a2 + 1), .ref (adr 29)]) (As := [.ref (sK 1)]) (tX4_readLetter hJ 1 (by decide) m4) (by decide) rfl rfl wc_X4_readLetter wl_X4_59 wi_X4_readLetter ws_X4_readLetter wn_X4 rfl hd_X4_readLetter ⟨Nat.le_of_ble_eq_true rfl, Nat.le_of_ble_eq_true rfl⟩ ⟨rfl, rfl⟩ rfl rfl (Nat.le_of_ble_eq_true rfl) dX4_readPerson_50 rfl (fun x5 m6 => ?_)
      refine gx_iastore X 53 54 29 (by decide) rfl dX4_readPerson_53 rfl (fun m7 => ?_)
      refine gx_aload_n X 54 55 1 dX4_readPerson_54 rfl rfl rfl ?_
      refine gx_iload_n X 55 56 2 dX4_readPerson_55 rfl rfl rfl ?_
      refine gx_iconst X 56 57 (1) dX4_readPerson_56 rfl ci_1 ?_
      refine gx_iadd X 57 58 dX4_readPerson_57 rfl ?_
      refine gx_iaload X 58 59 29 (by decide) rfl dX4_readPerson_58 rfl ?_
      refine gx_if_ge X 59 64 62 dX4_readPerson_59 rfl rfl ?_ ?_
      · refine gx_aload_n X 64 65 1 dX4_readPerson_64 rfl rfl rfl ?_
        refine gx_iload_n X 65 66 2 dX4_readPerson_65 rfl rfl rfl ?_
        refine gx_iconst X 66 67 (2) dX4_readPerson_66 rfl ci_2 ?_
        refine gx_iadd X 67 68 dX4_readPerson_67 rfl ?_
        refine gx_aload_n X 68 69 0 dX4_readPerson_68 rfl rfl rfl ?_
        refine gx_ldcS2 X 69 71 dX4_readPerson_69 rfl ?_
        refine gx_calliV X 71 74 27 (rest := [.int (a2 + 2), .ref (adr 29)]) (As := [.ref (sK 2)]) (tX4_readLetter hJ 2 (by decide) m7) (by decide) rfl rfl wc_X4_readLetter wl_X4_59 wi_X4_readLetter ws_X4_readLetter wn_X4 rfl hd_X4_readLetter ⟨Nat.le_of_ble_eq_true rfl, Nat.le_of_ble_eq_true rfl⟩ ⟨rfl, rfl⟩ rfl rfl (Nat.le_of_ble_eq_true rfl) dX4_readPerson_71 rfl (fun x8 m9 => ?_)
        refine gx_iastore X 74 75 29 (by decide) rfl dX4_readPerson_74 rfl (fun m10 => ?_)
        refine gx_aload_n X 75 76 1 dX4_readPerson_75 rfl rfl rfl ?_
        refine gx_iload_n X 76 77 2 dX4_readPerson_76 rfl rfl rfl ?_
        refine gx_iconst X 77 78 (2) dX4_readPerson_77 rfl ci_2 ?_
        refine gx_iadd X 78 79 dX4_readPerson_78 rfl ?_
        refine gx_iaload X 79 80 29 (by decide) rfl dX4_readPerson_79 rfl ?_
        refine gx_if_ge X 80 85 83 dX4_readPerson_80 rfl rfl ?_ ?_
        · refine gx_aload_n X 85 86 1 dX4_readPerson_85 rfl rfl rfl ?_
          refine gx_iload_n X 86 87 2 dX4_readPerson_86 rfl rfl rfl ?_
          refine gx_iconst X 87 88 (3) dX4_readPerson_87 rfl ci_3 ?_
          refine gx_iadd X 88 89 dX4_readPerson_88 rfl ?_
          refine gx_aload_n X 89 90 0 dX4_readPerson_89 rfl rfl rfl ?_
          refine gx_getSN X 90 93 3 (by decide) (List.mem_of_getElem? (i := 5) rfl) dX4_readPerson_90 rfl ?_
          refine gx_iconst X 93 94 (3) dX4_readPerson_93 rfl ci_3 ?_
          refine gx_sload X 94 95 3 (by decide) rfl dX4_readPerson_94 rfl ?_
          refine gx_getSN X 95 98 4 (by decide) (List.mem_of_getElem? (i := 6) rfl) dX4_readPerson_95 rfl ?_
          refine gx_iconst X 98 99 (3) dX4_readPerson_98 rfl ci_3 ?_
          refine gx_sload X 99 100 4 (by decide) rfl dX4_readPerson_99 rfl ?_
          refine gx_calliV X 100 103 27 (rest := [.int (a2 + 3), .ref (adr 29)]) (As := [.int ((mm_stV 3).getD (3 : Int32).toNatClampNeg 0), .int ((mm_stV 4).getD (3 : Int32).toNatClampNeg 0)]) (tX4_readNumber hJ ((mm_stV 3).getD (3 : Int32).toNatClampNeg 0) ((mm_stV 4).getD (3 : Int32).toNatClampNeg 0) m10) (by decide) rfl rfl wc_X4_readNumber wl_X4_40 wi_X4_readNumber ws_X4_readNumber wn_X4 rfl hd_X4_readNumber ⟨Nat.le_of_ble_eq_true rfl, Nat.le_of_ble_eq_true rfl⟩ ⟨rfl, rfl⟩ rfl rfl (Nat.le_of_ble_eq_true rfl) dX4_readPerson_100 rfl (fun x11 m12 => ?_)
          refine gx_iastore X 103 104 29 (by decide) rfl dX4_readPerson_103 rfl (fun m13 => ?_)
          refine gx_aload_n X 104 105 1 dX4_readPerson_104 rfl rfl rfl ?_
          refine gx_iload_n X 105 106 2 dX4_readPerson_105 rfl rfl rfl ?_
          refine gx_iconst X 106 107 (3) dX4_readPerson_106 rfl ci_3 ?_
          refine gx_iadd X 107 108 dX4_readPerson_107 rfl ?_
          refine gx_iaload X 108 109 29 (by decide) rfl dX4_readPerson_108 rfl ?_
          refine gx_if_ge X 109 114 112 dX4_readPerson_109 rfl rfl ?_ ?_
          · refine gx_aload_n X 114 115 1 dX4_readPerson_114 rfl rfl rfl ?_
            refine gx_iload_n X 115 116 2 dX4_readPerson_115 rfl rfl rfl ?_
            refine gx_iconst X 116 117 (4) dX4_readPerson_116 rfl ci_4 ?_
            refine gx_iadd X 117 118 dX4_readPerson_117 rfl ?_
            refine gx_aload_n X 118 119 0 dX4_readPerson_118 rfl rfl rfl ?_
            refine gx_calliV X 119 122 27 (rest := [.int (a2 + 4), .ref (adr 29)]) (As := []) (tX4_readTrips hJ m13) (by decide) rfl rfl wc_X4_readTrips wl_X4_65 wi_X4_readTrips ws_X4_readTrips wn_X4 rfl hd_X4_readTrips ⟨Nat.le_of_ble_eq_true rfl, Nat.le_of_ble_eq_true rfl⟩ ⟨rfl, rfl⟩ rfl rfl (Nat.le_of_ble_eq_true rfl) dX4_readPerson_119 rfl (fun x14 m15 => ?_)
            refine gx_iastore X 122 123 29 (by decide) rfl dX4_readPerson_122 rfl (fun m16 => ?_)
            refine gx_aload_n X 123 124 1 dX4_readPerson_123 rfl rfl rfl ?_
            refine gx_iload_n X 124 125 2 dX4_readPerson_124 rfl rfl rfl ?_
            refine gx_iconst X 125 126 (4) dX4_readPerson_125 rfl ci_4 ?_
            refine gx_iadd X 126 127 dX4_readPerson_126 rfl ?_
            refine gx_iaload X 127 128 29 (by decide) rfl dX4_readPerson_127 rfl ?_
            refine gx_jn (fun (k : Int32 → Mm → Aa) => ∀ (x17 : Int32) (m18 : Mm), mm_G p l e rX4_readPerson s m args below meth c 3 D cA adr sX NX (mm_Qi D cA adr sX NX) m18 136 [] [.int x17] (k x17 m18)) ?_ (fun k_136 hk_136 => ?_)
            · intro x17 m18
              exact gx_zret X 136 hr dX4_readPerson_136
            refine gx_if_le X 128 135 131 dX4_readPerson_128 rfl rfl ?_ ?_
            · refine gx_iconst X 135 136 (0) dX4_readPerson_135 rfl ci_0 ?_
              refine gx_sub [] rfl ?_
              exact hk_136 0 m16
            refine gx_iconst X 131 132 (1) dX4_readPerson_131 rfl ci_1 ?_
            refine gx_goto X 132 136 dX4_readPerson_132 rfl ?_
            refine gx_sub [] rfl ?_
            exact hk_136 1 m16
          refine gx_iconst X 112 113 (0) dX4_readPerson_112 rfl ci_0 ?_
          exact gx_zret X 113 hr dX4_readPerson_113
        refine gx_iconst X 83 84 (0) dX4_readPerson_83 rfl ci_0 ?_
        exact gx_zret X 84 hr dX4_readPerson_84
      refine gx_iconst X 62 63 (0) dX4_readPerson_62 rfl ci_0 ?_
      exact gx_zret X 63 hr dX4_readPerson_63
    refine gx_iconst X 41 42 (0) dX4_readPerson_41 rfl ci_0 ?_
    exact gx_zret X 42 hr dX4_readPerson_42
  refine gx_sub [] rfl ?_
  exact hk_12 μ
def fX4_readPeople_L7 (k_26 : Mm → Aa) (k_41 : Int32 → Mm → Aa) (k_55 : Mm → Aa) (k_76 : Mm → Aa) (rec_7 : Int32 → Mm → Aa) (x14 : Int32) (m15 : Mm) : Aa := if 6 < x14 then (k_76 m15) else (mm_cl (fX4_readPerson ((x14 - 1) * 5) m15) (fun (x16 : Int32) (m17 : Mm) => if x16 = 0 then (k_26 m17) else (mm_cl (fX4_peek m17) (fun (x18 : Int32) (m19 : Mm) => mm_lt x18 (fun (x20 : Int32) => if x20 = ((-1)) then (k_41 x14 m19) else (if x20 = 59 then (if x14 = 6 then (k_55 m19) else (mm_lt (mm_wr m19 27 1 ((m19 27 1) + 1)) (fun (m21 : Mm) => mm_lt (x14 + 1) (fun (x22 : Int32) => rec_7 x22 m21)))) else (k_55 m19)))))))
def fX4_readPeople (μ : Mm) : Aa := mm_lt (mm_wr μ 27 1 0) (fun (m1 : Mm) => mm_lt 1 (fun (x2 : Int32) => mm_lt (fun (m3 : Mm) => mm_cl (fX4_fault m3) (fun (x4 : Int32) (m5 : Mm) => some (x4, m5))) (fun (k_76 : Mm → Aa) => mm_lt (fun (m6 : Mm) => mm_cl (fX4_fault m6) (fun (x7 : Int32) (m8 : Mm) => some (x7, m8))) (fun (k_55 : Mm → Aa) => mm_lt (fun (x9 : Int32) (m10 : Mm) => some (x9, m10)) (fun (k_41 : Int32 → Mm → Aa) => mm_lt (fun (m11 : Mm) => mm_cl (fX4_fault m11) (fun (x12 : Int32) (m13 : Mm) => some (x12, m13))) (fun (k_26 : Mm → Aa) => mm_lk (fun (_ : Int32) (_ : Mm) => (none : Aa)) (fX4_readPeople_L7 k_26 k_41 k_55 k_76) mm_fu x2 m1))))))
abbrev rX4_readPeople : Room := { frames := 6, cells := 0, slots := 0, locals := 136 }
set_option maxRecDepth 100000 in
set_option maxHeartbeats 8000000 in
theorem tX4_readPeople {l : Launch} {D : va_G} {cA : Nat → ClassId} {adr : Nat → Nat} {tt sK sV : Nat → Nat} {qv : Value} (hJ : mm_J adr NX) (μ : Mm) : mm_Mi l D cA adr sX NX (mm_SX (mm_A adr NX) tt sK sV qv) yX4_readPeople cX4_readPeople 4 (some .int) rX4_readPeople [.ref (adr 27), .ref (adr 29)] μ (fX4_readPeople μ) := by
  refine mm_entryi hJ mm_okX (by decide) (Nat.le_of_ble_eq_true rfl) ⟨rfl, rfl⟩ (fun p e s m below meth c X hr => ?_)
  generalize ([.ref (adr 27), .ref (adr 29)] : List Value).toArray = args at X ⊢
  refine gx_lv (lv' := [(0, .ref (adr 27)), (1, .ref (adr 29))]) rfl ?_
  unfold fX4_readPeople
  refine gx_aload_n X 0 1 0 dX4_readPeople_0 rfl rfl rfl ?_
  refine gx_iconst X 1 2 (0) dX4_readPeople_1 rfl ci_0 ?_
  refine gx_putI X 2 5 27 (by decide) rfl rfl fp_X4_19 dX4_readPeople_2 rfl (fun m1 => ?_)
  refine gx_iconst X 5 6 (1) dX4_readPeople_5 rfl ci_1 ?_
  refine gx_istore_n X 6 7 (fun x2 => [(2, .int x2), (0, .ref (adr 27)), (1, .ref (adr 29))]) dX4_readPeople_6 rfl rfl (by decide) (fun _ => rfl) (fun x2 => ?_)
  refine gx_jn (fun (k : Mm → Aa) => ∀ (m3 : Mm), mm_G p l e rX4_readPeople s m args below meth c 4 D cA adr sX NX (mm_Qi D cA adr sX NX) m3 76 [(0, .ref (adr 27))] [] (k m3)) ?_ (fun k_76 hk_76 => ?_)
  · intro m3
    refine gx_aload_n X 76 77 0 dX4_readPeople_76 rfl rfl rfl ?_
    refine gx_calliV X 77 80 27 (rest := []) (As := []) (tX4_fault hJ m3) (by decide) rfl rfl wc_X4_fault wl_X4_44 wi_X4_fault ws_X4_fault wn_X4 rfl hd_X4_fault ⟨Nat.le_of_ble_eq_true rfl, Nat.le_of_ble_eq_true rfl⟩ ⟨rfl, rfl⟩ rfl rfl (Nat.le_of_ble_eq_true rfl) dX4_readPeople_77 rfl (fun x4 m5 => ?_)
    exact gx_iret X 80 hr dX4_readPeople_80
  refine gx_jn (fun (k : Mm → Aa) => ∀ (m6 : Mm), mm_G p l e rX4_readPeople s m args below meth c 4 D cA adr sX NX (mm_Qi D cA adr sX NX) m6 55 [(0, .ref (adr 27))] [] (k m6)) ?_ (fun k_55 hk_55 => ?_)
  · intro m6
    refine gx_aload_n X 55 56 0 dX4_readPeople_55 rfl rfl rfl ?_
    refine gx_calliV X 56 59 27 (rest := []) (As := []) (tX4_fault hJ m6) (by decide) rfl rfl wc_X4_fault wl_X4_44 wi_X4_fault ws_X4_fault wn_X4 rfl hd_X4_fault ⟨Nat.le_of_ble_eq_true rfl, Nat.le_of_ble_eq_true rfl⟩ ⟨rfl, rfl⟩ rfl rfl (Nat.le_of_ble_eq_true rfl) dX4_readPeople_56 rfl (fun x7 m8 => ?_)
    exact gx_iret X 59 hr dX4_readPeople_59
  refine gx_jn (fun (k : Int32 → Mm → Aa) => ∀ (x9 : Int32) (m10 : Mm), mm_G p l e rX4_readPeople s m args below meth c 4 D cA adr sX NX (mm_Qi D cA adr sX NX) m10 41 [(2, .int x9)] [] (k x9 m10)) ?_ (fun k_41 hk_41 => ?_)
  · intro x9 m10
    refine gx_iload_n X 41 42 0 dX4_readPeople_41 rfl rfl rfl ?_
    exact gx_iret X 42 hr dX4_readPeople_42
  refine gx_jn (fun (k : Mm → Aa) => ∀ (m11 : Mm), mm_G p l e rX4_readPeople s m args below meth c 4 D cA adr sX NX (mm_Qi D cA adr sX NX) m11 26 [(0, .ref (adr 27))] [] (k m11)) ?_ (fun k_26 hk_26 => ?_)
  · intro m11
    refine gx_aload_n X 26 27 0 dX4_readPeople_26 rfl rfl rfl ?_
    refine gx_calliV X 27 30 27 (rest := []) (As := []) (tX4_fault hJ m11) (by decide) rfl rfl wc_X4_fault wl_X4_44 wi_X4_fault ws_X4_fault wn_X4 rfl hd_X4_fault ⟨Nat.le_of_ble_eq_true rfl, Nat.le_of_ble_eq_true rfl⟩ ⟨rfl, rfl⟩ rfl rfl (Nat.le_of_ble_eq_true rfl) dX4_readPeople_27 rfl (fun x12 m13 => ?_)
    exact gx_iret X 30 hr dX4_readPeople_30
  refine gx_sub [1, 2, 0] rfl ?_
  refine mm_lk_ind (fun (rec : Int32 → Mm → Aa) => ∀ (x14 : Int32) (m15 : Mm), mm_G p l e rX4_readPeople s m args below meth c 4 D cA adr sX NX (mm_Qi D cA adr sX NX) m15 7 [(0, .ref (adr 27)), (1, .ref (adr 29)), (2, .int x14)] [] (rec x14 m15)) (fun _ _ => gx_none) (fun rec_7 hr_7 x14 m15 => ?_) mm_fu x2 m1
  unfold fX4_readPeople_L7
  refine gx_iload_n X 7 8 2 dX4_readPeople_7 rfl rfl rfl ?_
  refine gx_bipush X 8 10 (6) dX4_readPeople_8 rfl cb_6 ?_
  refine gx_icmp_gt X 10 76 13 dX4_readPeople_10 rfl rfl ?_ ?_
  · refine gx_sub [0] rfl ?_
    exact hk_76 m15
  refine gx_aload_n X 13 14 0 dX4_readPeople_13 rfl rfl rfl ?_
  refine gx_aload_n X 14 15 1 dX4_readPeople_14 rfl rfl rfl ?_
  refine gx_iload_n X 15 16 2 dX4_readPeople_15 rfl rfl rfl ?_
  refine gx_iconst X 16 17 (1) dX4_readPeople_16 rfl ci_1 ?_
  refine gx_isub X 17 18 dX4_readPeople_17 rfl ?_
  refine gx_iconst X 18 19 (5) dX4_readPeople_18 rfl ci_5 ?_
  refine gx_imul X 19 20 dX4_readPeople_19 rfl ?_
  refine gx_calliV X 20 23 27 (rest := []) (As := [.ref (adr 29), .int ((x14 - 1) * 5)]) (tX4_readPerson hJ ((x14 - 1) * 5) m15) (by decide) rfl rfl wc_X4_readPerson wl_X4_47 wi_X4_readPerson ws_X4_readPerson wn_X4 rfl hd_X4_readPerson ⟨Nat.le_of_ble_eq_true rfl, Nat.le_of_ble_eq_true rfl⟩ ⟨rfl, rfl⟩ rfl rfl (Nat.le_of_ble_eq_true rfl) dX4_readPeople_20 rfl (fun x16 m17 => ?_)
  refine gx_if_ne X 23 31 26 dX4_readPeople_23 rfl rfl ?_ ?_
  · refine gx_aload_n X 31 32 0 dX4_readPeople_31 rfl rfl rfl ?_
    refine gx_calliV X 32 35 27 (rest := []) (As := []) (tX4_peek hJ m17) (by decide) rfl rfl wc_X4_peek wl_X4_22 wi_X4_peek ws_X4_peek wn_X4 rfl hd_X4_peek ⟨Nat.le_of_ble_eq_true rfl, Nat.le_of_ble_eq_true rfl⟩ ⟨rfl, rfl⟩ rfl rfl (Nat.le_of_ble_eq_true rfl) dX4_readPeople_32 rfl (fun x18 m19 => ?_)
    refine gx_istore_n X 35 36 (fun x20 => [(3, .int x20), (0, .ref (adr 27)), (1, .ref (adr 29)), (2, .int x14)]) dX4_readPeople_35 rfl rfl (by decide) (fun _ => rfl) (fun x20 => ?_)
    refine gx_iload_n X 36 37 0 dX4_readPeople_36 rfl rfl rfl ?_
    refine gx_iconst X 37 38 (-1) dX4_readPeople_37 rfl ci_m1 ?_
    refine gx_icmp_ne X 38 43 41 dX4_readPeople_38 rfl rfl ?_ ?_
    · refine gx_iload_n X 43 44 0 dX4_readPeople_43 rfl rfl rfl ?_
      refine gx_bipush X 44 46 (59) dX4_readPeople_44 rfl cb_59 ?_
      refine gx_icmp_ne X 46 55 49 dX4_readPeople_46 rfl rfl ?_ ?_
      · refine gx_sub [1] rfl ?_
        exact hk_55 m19
      refine gx_iload_n X 49 50 3 dX4_readPeople_49 rfl rfl rfl ?_
      refine gx_bipush X 50 52 (6) dX4_readPeople_50 rfl cb_6 ?_
      refine gx_icmp_ne X 52 60 55 dX4_readPeople_52 rfl rfl ?_ ?_
      · refine gx_aload_n X 60 61 1 dX4_readPeople_60 rfl rfl rfl ?_
        refine gx_dup X 61 62 dX4_readPeople_61 rfl rfl ?_
        refine gx_getI X 62 65 27 (by decide) rfl rfl fg_X4_19 dX4_readPeople_62 rfl ?_
        refine gx_iconst X 65 66 (1) dX4_readPeople_65 rfl ci_1 ?_
        refine gx_iadd X 66 67 dX4_readPeople_66 rfl ?_
        refine gx_putI X 67 70 27 (by decide) rfl rfl fp_X4_19 dX4_readPeople_67 rfl (fun m21 => ?_)
        refine gx_iinc X 70 73 3 (1) (fun x22 => [(2, .int x22), (3, .int x20), (0, .ref (adr 27)), (1, .ref (adr 29))]) dX4_readPeople_70 rfl rfl ci_1 (by decide) (fun _ => rfl) (fun x22 => ?_)
        refine gx_goto X 73 7 dX4_readPeople_73 rfl ?_
        refine gx_sub [2, 3, 0] rfl ?_
        exact hr_7 x22 m21
      refine gx_sub [1] rfl ?_
      exact hk_55 m19
    refine gx_sub [3] rfl ?_
    exact hk_41 x14 m19
  refine gx_sub [0] rfl ?_
  exact hk_26 m17
def fX4_readLaws_L9 (k_65 : Mm → Aa) (k_79 : Int32 → Mm → Aa) (rec_9 : Int32 → Int32 → Mm → Aa) (x16 : Int32) (x17 : Int32) (m18 : Mm) : Aa := if 6 ≤ x17 then (k_79 x16 m18) else (mm_ck x17 30 (mm_lt (mm_wr m18 29 x17.toNatClampNeg ((-1))) (fun (m19 : Mm) => mm_cl (fX4_peek m19) (fun (x20 : Int32) (m21 : Mm) => mm_cl (fJ0_charAt 0 x17 m21) (fun (x22 : Int32) (m23 : Mm) => mm_lt (fun (x24 : Int32) (m25 : Mm) => mm_lt (x17 + 1) (fun (x26 : Int32) => rec_9 x24 x26 m25)) (fun (k_73 : Int32 → Mm → Aa) => if x20 = x22 then (mm_lt (mm_wr m23 27 1 ((m23 27 1) + 1)) (fun (m27 : Mm) => mm_ck x17 6 (mm_ck x17 6 (mm_cl (fX4_readNumber ((mm_stV 1).getD x17.toNatClampNeg 0) ((mm_stV 2).getD x17.toNatClampNeg 0) m27) (fun (x28 : Int32) (m29 : Mm) => mm_ck x17 30 (mm_lt (mm_wr m29 29 x17.toNatClampNeg x28) (fun (m30 : Mm) => mm_ck x17 30 (if 0 ≤ (m30 29 x17.toNatClampNeg) then (mm_lt (x16 + 1) (fun (x31 : Int32) => k_73 x31 m30)) else (k_65 m30))))))))) else (k_73 x16 m23)))))))
def fX4_readLaws (μ : Mm) : Aa := mm_lt (mm_wr μ 27 1 0) (fun (m1 : Mm) => mm_lt 0 (fun (x2 : Int32) => mm_lt 0 (fun (x3 : Int32) => mm_lt (fun (x4 : Int32) (m5 : Mm) => mm_lt (fun (x6 : Int32) (m7 : Mm) => some (x6, m7)) (fun (k_99 : Int32 → Mm → Aa) => mm_lt (fun (m8 : Mm) => mm_cl (fX4_fault m8) (fun (x9 : Int32) (m10 : Mm) => k_99 x9 m10)) (fun (k_91 : Mm → Aa) => if x4 = 0 then (k_91 m5) else (mm_cl (fX4_peek m5) (fun (x11 : Int32) (m12 : Mm) => if x11 = ((-1)) then (k_99 x4 m12) else (k_91 m12)))))) (fun (k_79 : Int32 → Mm → Aa) => mm_lt (fun (m13 : Mm) => mm_cl (fX4_fault m13) (fun (x14 : Int32) (m15 : Mm) => some (x14, m15))) (fun (k_65 : Mm → Aa) => mm_lk (fun (_ : Int32) (_ : Int32) (_ : Mm) => (none : Aa)) (fX4_readLaws_L9 k_65 k_79) mm_fu x2 x3 m1)))))
abbrev rX4_readLaws : Room := { frames := 4, cells := 0, slots := 0, locals := 85 }
set_option maxRecDepth 100000 in
set_option maxHeartbeats 8000000 in
theorem tX4_readLaws {l : Launch} {D : va_G} {cA : Nat → ClassId} {adr : Nat → Nat} {tt sK sV : Nat → Nat} {qv : Value} (hJ : mm_J adr NX) (μ : Mm) : mm_Mi l D cA adr sX NX (mm_SX (mm_A adr NX) tt sK sV qv) yX4_readLaws cX4_readLaws 4 (some .int) rX4_readLaws [.ref (adr 27), .ref (adr 29)] μ (fX4_readLaws μ) := by
  refine mm_entryi hJ mm_okX (by decide) (Nat.le_of_ble_eq_true rfl) ⟨rfl, rfl⟩ (fun p e s m below meth c X hr => ?_)
  generalize ([.ref (adr 27), .ref (adr 29)] : List Value).toArray = args at X ⊢
  refine gx_lv (lv' := [(0, .ref (adr 27)), (1, .ref (adr 29))]) rfl ?_
  unfold fX4_readLaws
  refine gx_aload_n X 0 1 0 dX4_readLaws_0 rfl rfl rfl ?_
  refine gx_iconst X 1 2 (0) dX4_readLaws_1 rfl ci_0 ?_
  refine gx_putI X 2 5 27 (by decide) rfl rfl fp_X4_19 dX4_readLaws_2 rfl (fun m1 => ?_)
  refine gx_iconst X 5 6 (0) dX4_readLaws_5 rfl ci_0 ?_
  refine gx_istore_n X 6 7 (fun x2 => [(2, .int x2), (0, .ref (adr 27)), (1, .ref (adr 29))]) dX4_readLaws_6 rfl rfl (by decide) (fun _ => rfl) (fun x2 => ?_)
  refine gx_iconst X 7 8 (0) dX4_readLaws_7 rfl ci_0 ?_
  refine gx_istore_n X 8 9 (fun x3 => [(3, .int x3), (2, .int x2), (0, .ref (adr 27)), (1, .ref (adr 29))]) dX4_readLaws_8 rfl rfl (by decide) (fun _ => rfl) (fun x3 => ?_)
  refine gx_jn (fun (k : Int32 → Mm → Aa) => ∀ (x4 : Int32) (m5 : Mm), mm_G p l e rX4_readLaws s m args below meth c 4 D cA adr sX NX (mm_Qi D cA adr sX NX) m5 79 [(0, .ref (adr 27)), (2, .int x4)] [] (k x4 m5)) ?_ (fun k_79 hk_79 => ?_)
  · intro x4 m5
    refine gx_iload_n X 79 80 1 dX4_readLaws_79 rfl rfl rfl ?_
    refine gx_jn (fun (k : Int32 → Mm → Aa) => ∀ (x6 : Int32) (m7 : Mm), mm_G p l e rX4_readLaws s m args below meth c 4 D cA adr sX NX (mm_Qi D cA adr sX NX) m7 99 [] [.int x6] (k x6 m7)) ?_ (fun k_99 hk_99 => ?_)
    · intro x6 m7
      exact gx_iret X 99 hr dX4_readLaws_99
    refine gx_jn (fun (k : Mm → Aa) => ∀ (m8 : Mm), mm_G p l e rX4_readLaws s m args below meth c 4 D cA adr sX NX (mm_Qi D cA adr sX NX) m8 91 [(0, .ref (adr 27))] [] (k m8)) ?_ (fun k_91 hk_91 => ?_)
    · intro m8
      refine gx_aload_n X 91 92 0 dX4_readLaws_91 rfl rfl rfl ?_
      refine gx_calliV X 92 95 27 (rest := []) (As := []) (tX4_fault hJ m8) (by decide) rfl rfl wc_X4_fault wl_X4_44 wi_X4_fault ws_X4_fault wn_X4 rfl hd_X4_fault ⟨Nat.le_of_ble_eq_true rfl, Nat.le_of_ble_eq_true rfl⟩ ⟨rfl, rfl⟩ rfl rfl (Nat.le_of_ble_eq_true rfl) dX4_readLaws_92 rfl (fun x9 m10 => ?_)
      refine gx_goto X 95 99 dX4_readLaws_95 rfl ?_
      refine gx_sub [] rfl ?_
      exact hk_99 x9 m10
    refine gx_if_eq X 80 91 83 dX4_readLaws_80 rfl rfl ?_ ?_
    · refine gx_sub [0] rfl ?_
      exact hk_91 m5
    refine gx_aload_n X 83 84 0 dX4_readLaws_83 rfl rfl rfl ?_
    refine gx_calliV X 84 87 27 (rest := []) (As := []) (tX4_peek hJ m5) (by decide) rfl rfl wc_X4_peek wl_X4_22 wi_X4_peek ws_X4_peek wn_X4 rfl hd_X4_peek ⟨Nat.le_of_ble_eq_true rfl, Nat.le_of_ble_eq_true rfl⟩ ⟨rfl, rfl⟩ rfl rfl (Nat.le_of_ble_eq_true rfl) dX4_readLaws_84 rfl (fun x11 m12 => ?_)
    refine gx_iconst X 87 88 (-1) dX4_readLaws_87 rfl ci_m1 ?_
    refine gx_icmp_eq X 88 98 91 dX4_readLaws_88 rfl rfl ?_ ?_
    · refine gx_iload_n X 98 99 1 dX4_readLaws_98 rfl rfl rfl ?_
      refine gx_sub [] rfl ?_
      exact hk_99 x4 m12
    refine gx_sub [0] rfl ?_
    exact hk_91 m12
  refine gx_jn (fun (k : Mm → Aa) => ∀ (m13 : Mm), mm_G p l e rX4_readLaws s m args below meth c 4 D cA adr sX NX (mm_Qi D cA adr sX NX) m13 65 [(0, .ref (adr 27))] [] (k m13)) ?_ (fun k_65 hk_65 => ?_)
  · intro m13
    refine gx_aload_n X 65 66 0 dX4_readLaws_65 rfl rfl rfl ?_
    refine gx_calliV X 66 69 27 (rest := []) (As := []) (tX4_fault hJ m13) (by decide) rfl rfl wc_X4_fault wl_X4_44 wi_X4_fault ws_X4_fault wn_X4 rfl hd_X4_fault ⟨Nat.le_of_ble_eq_true rfl, Nat.le_of_ble_eq_true rfl⟩ ⟨rfl, rfl⟩ rfl rfl (Nat.le_of_ble_eq_true rfl) dX4_readLaws_66 rfl (fun x14 m15 => ?_)
    exact gx_iret X 69 hr dX4_readLaws_69
  refine gx_sub [2, 3, 1, 0] rfl ?_
  refine mm_lk_ind (fun (rec : Int32 → Int32 → Mm → Aa) => ∀ (x16 : Int32) (x17 : Int32) (m18 : Mm), mm_G p l e rX4_readLaws s m args below meth c 4 D cA adr sX NX (mm_Qi D cA adr sX NX) m18 9 [(0, .ref (adr 27)), (1, .ref (adr 29)), (2, .int x16), (3, .int x17)] [] (rec x16 x17 m18)) (fun _ _ _ => gx_none) (fun rec_9 hr_9 x16 x17 m18 => ?_) mm_fu x2 x3 m1
  unfold fX4_readLaws_L9
  refine gx_iload_n X 9 10 3 dX4_readLaws_9 rfl rfl rfl ?_
  refine gx_bipush X 10 12 (6) dX4_readLaws_10 rfl cb_6 ?_
  refine gx_icmp_ge X 12 79 15 dX4_readLaws_12 rfl rfl ?_ ?_
  · refine gx_sub [0, 2] rfl ?_
    exact hk_79 x16 m18
  refine gx_aload_n X 15 16 1 dX4_readLaws_15 rfl rfl rfl ?_
  refine gx_iload_n X 16 17 3 dX4_readLaws_16 rfl rfl rfl ?_
  refine gx_iconst X 17 18 (-1) dX4_readLaws_17 rfl ci_m1 ?_
  refine gx_iastore X 18 19 29 (by decide) rfl dX4_readLaws_18 rfl (fun m19 => ?_)
  refine gx_aload_n X 19 20 0 dX4_readLaws_19 rfl rfl rfl ?_
  refine gx_calliV X 20 23 27 (rest := []) (As := []) (tX4_peek hJ m19) (by decide) rfl rfl wc_X4_peek wl_X4_22 wi_X4_peek ws_X4_peek wn_X4 rfl hd_X4_peek ⟨Nat.le_of_ble_eq_true rfl, Nat.le_of_ble_eq_true rfl⟩ ⟨rfl, rfl⟩ rfl rfl (Nat.le_of_ble_eq_true rfl) dX4_readLaws_20 rfl (fun x20 m21 => ?_)
  refine gx_ldcS0 X 23 25 dX4_readLaws_23 rfl ?_
  refine gx_iload_n X 25 26 3 dX4_readLaws_25 rfl rfl rfl ?_
  refine gx_calliT X 26 29 0 (rest := [.int x20]) (As := [.int x17]) (tJ0_charAt hJ 0 x17 (by decide) m21) (by decide) wc_J0_charAt_5068e wl_X4_28 wi_J0_charAt_5068e ws_J0_charAt_5068e wn_J0 rfl hd_J0_charAt_5068e ⟨Nat.le_of_ble_eq_true rfl, Nat.le_of_ble_eq_true rfl⟩ ⟨rfl, rfl⟩ rfl rfl (Nat.le_of_ble_eq_true rfl) dX4_readLaws_26 rfl (fun x22 m23 => ?_)
  refine gx_jn (fun (k : Int32 → Mm → Aa) => ∀ (x24 : Int32) (m25 : Mm), mm_G p l e rX4_readLaws s m args below meth c 4 D cA adr sX NX (mm_Qi D cA adr sX NX) m25 73 [(0, .ref (adr 27)), (1, .ref (adr 29)), (2, .int x24), (3, .int x17)] [] (k x24 m25)) ?_ (fun k_73 hk_73 => ?_)
  · intro x24 m25
    refine gx_iinc X 73 76 3 (1) (fun x26 => [(3, .int x26), (0, .ref (adr 27)), (1, .ref (adr 29)), (2, .int x24)]) dX4_readLaws_73 rfl rfl ci_1 (by decide) (fun _ => rfl) (fun x26 => ?_)
    refine gx_goto X 76 9 dX4_readLaws_76 rfl ?_
    refine gx_sub [1, 2, 3, 0] rfl ?_
    exact hr_9 x24 x26 m25
  refine gx_icmp_ne X 29 73 32 dX4_readLaws_29 rfl rfl ?_ ?_
  · exact hk_73 x16 m23
  refine gx_aload_n X 32 33 0 dX4_readLaws_32 rfl rfl rfl ?_
  refine gx_dup X 33 34 dX4_readLaws_33 rfl rfl ?_
  refine gx_getI X 34 37 27 (by decide) rfl rfl fg_X4_19 dX4_readLaws_34 rfl ?_
  refine gx_iconst X 37 38 (1) dX4_readLaws_37 rfl ci_1 ?_
  refine gx_iadd X 38 39 dX4_readLaws_38 rfl ?_
  refine gx_putI X 39 42 27 (by decide) rfl rfl fp_X4_19 dX4_readLaws_39 rfl (fun m27 => ?_)
  refine gx_aload_n X 42 43 1 dX4_readLaws_42 rfl rfl rfl ?_
  refine gx_iload_n X 43 44 3 dX4_readLaws_43 rfl rfl rfl ?_
  refine gx_aload_n X 44 45 0 dX4_readLaws_44 rfl rfl rfl ?_
  refine gx_getSN X 45 48 1 (by decide) (List.mem_of_getElem? (i := 3) rfl) dX4_readLaws_45 rfl ?_
  refine gx_iload_n X 48 49 3 dX4_readLaws_48 rfl rfl rfl ?_
  refine gx_sload X 49 50 1 (by decide) rfl dX4_readLaws_49 rfl ?_
  refine gx_getSN X 50 53 2 (by decide) (List.mem_of_getElem? (i := 4) rfl) dX4_readLaws_50 rfl ?_
  refine gx_iload_n X 53 54 3 dX4_readLaws_53 rfl rfl rfl ?_
  refine gx_sload X 54 55 2 (by decide) rfl dX4_readLaws_54 rfl ?_
  refine gx_calliV X 55 58 27 (rest := [.int x17, .ref (adr 29)]) (As := [.int ((mm_stV 1).getD x17.toNatClampNeg 0), .int ((mm_stV 2).getD x17.toNatClampNeg 0)]) (tX4_readNumber hJ ((mm_stV 1).getD x17.toNatClampNeg 0) ((mm_stV 2).getD x17.toNatClampNeg 0) m27) (by decide) rfl rfl wc_X4_readNumber wl_X4_40 wi_X4_readNumber ws_X4_readNumber wn_X4 rfl hd_X4_readNumber ⟨Nat.le_of_ble_eq_true rfl, Nat.le_of_ble_eq_true rfl⟩ ⟨rfl, rfl⟩ rfl rfl (Nat.le_of_ble_eq_true rfl) dX4_readLaws_55 rfl (fun x28 m29 => ?_)
  refine gx_iastore X 58 59 29 (by decide) rfl dX4_readLaws_58 rfl (fun m30 => ?_)
  refine gx_aload_n X 59 60 1 dX4_readLaws_59 rfl rfl rfl ?_
  refine gx_iload_n X 60 61 3 dX4_readLaws_60 rfl rfl rfl ?_
  refine gx_iaload X 61 62 29 (by decide) rfl dX4_readLaws_61 rfl ?_
  refine gx_if_ge X 62 70 65 dX4_readLaws_62 rfl rfl ?_ ?_
  · refine gx_iinc X 70 73 2 (1) (fun x31 => [(2, .int x31), (0, .ref (adr 27)), (1, .ref (adr 29)), (3, .int x17)]) dX4_readLaws_70 rfl rfl ci_1 (by decide) (fun _ => rfl) (fun x31 => ?_)
    refine gx_sub [1, 2, 0, 3] rfl ?_
    exact hk_73 x31 m30
  refine gx_sub [0] rfl ?_
  exact hk_65 m30
