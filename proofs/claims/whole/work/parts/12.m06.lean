def fX7_goSome (a1 : Int32) (μ : Mm) : Aa := mm_ck a1 10 (mm_lt (fun (m1 : Mm) => some (0, m1)) (fun (k_52 : Mm → Aa) => if (μ 8 a1.toNatClampNeg) = 0 then (mm_ck a1 10 (mm_ck a1 6 (mm_cl (fX7_paceOf (μ 19 a1.toNatClampNeg) μ) (fun (x2 : Int32) (m3 : Mm) => mm_ck a1 10 (mm_lt (mm_wr m3 7 a1.toNatClampNeg ((μ 7 a1.toNatClampNeg) + x2)) (fun (m4 : Mm) => mm_ck a1 10 (mm_lt (fun (x5 : Int32) (m6 : Mm) => mm_ck a1 10 (mm_lt (mm_wr m6 8 a1.toNatClampNeg x5) (fun (m7 : Mm) => k_52 m7))) (fun (k_51 : Int32 → Mm → Aa) => if (m4 7 a1.toNatClampNeg) < (m4 0 23) then (k_51 0 m4) else (k_51 1 m4))))))))) else (k_52 μ)))
abbrev rX7_goSome : Room := { frames := 2, cells := 0, slots := 0, locals := 44 }
set_option maxRecDepth 100000 in
set_option maxHeartbeats 8000000 in
theorem tX7_goSome {l : Launch} {D : va_G} {cA : Nat → ClassId} {adr : Nat → Nat} (hJ : mm_J adr NM) (a1 : Int32) (μ : Mm) : mm_Mv l D cA adr sM NM mm_SM yX7_goSome cX7_goSome 2 none rX7_goSome [.ref (adr 0), .int a1] μ (fX7_goSome a1 μ) := by
  refine mm_entryv hJ mm_okM (by decide) (Nat.le_of_ble_eq_true rfl) ⟨rfl, rfl⟩ (fun p e s m below meth c X hr => ?_)
  generalize ([.ref (adr 0), .int a1] : List Value).toArray = args at X ⊢
  refine gx_lv (lv' := [(0, .ref (adr 0)), (1, .int a1)]) rfl ?_
  unfold fX7_goSome
  refine gx_aload_n X 0 1 0 dX7_goSome_0 rfl rfl rfl ?_
  refine gx_getR X 1 4 0 (by decide) rfl rfl fg_X7_35 dX7_goSome_1 rfl ?_
  refine gx_iload_n X 4 5 1 dX7_goSome_4 rfl rfl rfl ?_
  refine gx_iaload X 5 6 8 (by decide) rfl dX7_goSome_5 rfl ?_
  refine gx_jn (fun (k : Mm → Aa) => ∀ (m1 : Mm), mm_G p l e rX7_goSome s m args below meth c 2 D cA adr sM NM (mm_Qv D cA adr sM NM) m1 52 [] [] (k m1)) ?_ (fun k_52 hk_52 => ?_)
  · intro m1
    exact gx_vret X 52 hr dX7_goSome_52
  refine gx_if_ne X 6 52 9 dX7_goSome_6 rfl rfl ?_ ?_
  · refine gx_sub [] rfl ?_
    exact hk_52 μ
  refine gx_aload_n X 9 10 0 dX7_goSome_9 rfl rfl rfl ?_
  refine gx_getR X 10 13 0 (by decide) rfl rfl fg_X7_32 dX7_goSome_10 rfl ?_
  refine gx_iload_n X 13 14 1 dX7_goSome_13 rfl rfl rfl ?_
  refine gx_dup2 X 14 15 dX7_goSome_14 rfl rfl rfl ?_
  refine gx_iaload X 15 16 7 (by decide) rfl dX7_goSome_15 rfl ?_
  refine gx_aload_n X 16 17 0 dX7_goSome_16 rfl rfl rfl ?_
  refine gx_aload_n X 17 18 0 dX7_goSome_17 rfl rfl rfl ?_
  refine gx_getR X 18 21 0 (by decide) rfl rfl fg_X7_71 dX7_goSome_18 rfl ?_
  refine gx_iload_n X 21 22 1 dX7_goSome_21 rfl rfl rfl ?_
  refine gx_iaload X 22 23 19 (by decide) rfl dX7_goSome_22 rfl ?_
  refine gx_calliV X 23 26 0 (rest := [.int (μ 7 a1.toNatClampNeg), .int a1, .ref (adr 7)]) (As := [.int (μ 19 a1.toNatClampNeg)]) (tX7_paceOf hJ (μ 19 a1.toNatClampNeg) μ) (by decide) rfl rfl wc_X7_paceOf wl_X7_140 wi_X7_paceOf ws_X7_paceOf wn_X7 rfl hd_X7_paceOf ⟨Nat.le_of_ble_eq_true rfl, Nat.le_of_ble_eq_true rfl⟩ ⟨rfl, rfl⟩ rfl rfl (Nat.le_of_ble_eq_true rfl) dX7_goSome_23 rfl (fun x2 m3 => ?_)
  refine gx_iadd X 26 27 dX7_goSome_26 rfl ?_
  refine gx_iastore X 27 28 7 (by decide) rfl dX7_goSome_27 rfl (fun m4 => ?_)
  refine gx_aload_n X 28 29 0 dX7_goSome_28 rfl rfl rfl ?_
  refine gx_getR X 29 32 0 (by decide) rfl rfl fg_X7_35 dX7_goSome_29 rfl ?_
  refine gx_iload_n X 32 33 1 dX7_goSome_32 rfl rfl rfl ?_
  refine gx_aload_n X 33 34 0 dX7_goSome_33 rfl rfl rfl ?_
  refine gx_getR X 34 37 0 (by decide) rfl rfl fg_X7_32 dX7_goSome_34 rfl ?_
  refine gx_iload_n X 37 38 1 dX7_goSome_37 rfl rfl rfl ?_
  refine gx_iaload X 38 39 7 (by decide) rfl dX7_goSome_38 rfl ?_
  refine gx_aload_n X 39 40 0 dX7_goSome_39 rfl rfl rfl ?_
  refine gx_getI X 40 43 0 (by decide) rfl rfl fg_X7_191 dX7_goSome_40 rfl ?_
  refine gx_jn (fun (k : Int32 → Mm → Aa) => ∀ (x5 : Int32) (m6 : Mm), mm_G p l e rX7_goSome s m args below meth c 2 D cA adr sM NM (mm_Qv D cA adr sM NM) m6 51 [] [.int x5, .int a1, .ref (adr 8)] (k x5 m6)) ?_ (fun k_51 hk_51 => ?_)
  · intro x5 m6
    refine gx_iastore X 51 52 8 (by decide) rfl dX7_goSome_51 rfl (fun m7 => ?_)
    exact hk_52 m7
  refine gx_icmp_lt X 43 50 46 dX7_goSome_43 rfl rfl ?_ ?_
  · refine gx_iconst X 50 51 (0) dX7_goSome_50 rfl ci_0 ?_
    refine gx_sub [] rfl ?_
    exact hk_51 0 m4
  refine gx_iconst X 46 47 (1) dX7_goSome_46 rfl ci_1 ?_
  refine gx_goto X 47 51 dX7_goSome_47 rfl ?_
  refine gx_sub [] rfl ?_
  exact hk_51 1 m4
def fX7_isSpiting (a1 : Int32) (μ : Mm) : Aa := mm_ck a1 6 (mm_ck ((7 * (μ 19 a1.toNatClampNeg)) + 2) 70 (mm_lt (fun (x1 : Int32) (m2 : Mm) => mm_bo x1 (some (x1, m2))) (fun (k_25 : Int32 → Mm → Aa) => if (μ 1 ((7 * (μ 19 a1.toNatClampNeg)) + 2).toNatClampNeg) = 3 then (k_25 1 μ) else (k_25 0 μ))))
abbrev rX7_isSpiting : Room := { frames := 0, cells := 0, slots := 0, locals := 0 }
set_option maxRecDepth 100000 in
set_option maxHeartbeats 8000000 in
theorem tX7_isSpiting {l : Launch} {D : va_G} {cA : Nat → ClassId} {adr : Nat → Nat} (hJ : mm_J adr NM) (a1 : Int32) (μ : Mm) : mm_Mi l D cA adr sM NM mm_SM yX7_isSpiting cX7_isSpiting 2 (some .boolean) rX7_isSpiting [.ref (adr 0), .int a1] μ (fX7_isSpiting a1 μ) := by
  refine mm_entryi hJ mm_okM (by decide) (Nat.le_of_ble_eq_true rfl) ⟨rfl, rfl⟩ (fun p e s m below meth c X hr => ?_)
  generalize ([.ref (adr 0), .int a1] : List Value).toArray = args at X ⊢
  refine gx_lv (lv' := [(0, .ref (adr 0)), (1, .int a1)]) rfl ?_
  unfold fX7_isSpiting
  refine gx_aload_n X 0 1 0 dX7_isSpiting_0 rfl rfl rfl ?_
  refine gx_getR X 1 4 0 (by decide) rfl rfl fg_X7_7 dX7_isSpiting_1 rfl ?_
  refine gx_bipush X 4 6 (7) dX7_isSpiting_4 rfl cb_7 ?_
  refine gx_aload_n X 6 7 0 dX7_isSpiting_6 rfl rfl rfl ?_
  refine gx_getR X 7 10 0 (by decide) rfl rfl fg_X7_71 dX7_isSpiting_7 rfl ?_
  refine gx_iload_n X 10 11 1 dX7_isSpiting_10 rfl rfl rfl ?_
  refine gx_iaload X 11 12 19 (by decide) rfl dX7_isSpiting_11 rfl ?_
  refine gx_imul X 12 13 dX7_isSpiting_12 rfl ?_
  refine gx_iconst X 13 14 (2) dX7_isSpiting_13 rfl ci_2 ?_
  refine gx_iadd X 14 15 dX7_isSpiting_14 rfl ?_
  refine gx_iaload X 15 16 1 (by decide) rfl dX7_isSpiting_15 rfl ?_
  refine gx_iconst X 16 17 (3) dX7_isSpiting_16 rfl ci_3 ?_
  refine gx_jn (fun (k : Int32 → Mm → Aa) => ∀ (x1 : Int32) (m2 : Mm), mm_G p l e rX7_isSpiting s m args below meth c 2 D cA adr sM NM (mm_Qi D cA adr sM NM) m2 25 [] [.int x1] (k x1 m2)) ?_ (fun k_25 hk_25 => ?_)
  · intro x1 m2
    exact gx_zret X 25 hr dX7_isSpiting_25
  refine gx_icmp_ne X 17 24 20 dX7_isSpiting_17 rfl rfl ?_ ?_
  · refine gx_iconst X 24 25 (0) dX7_isSpiting_24 rfl ci_0 ?_
    refine gx_sub [] rfl ?_
    exact hk_25 0 μ
  refine gx_iconst X 20 21 (1) dX7_isSpiting_20 rfl ci_1 ?_
  refine gx_goto X 21 25 dX7_isSpiting_21 rfl ?_
  refine gx_sub [] rfl ?_
  exact hk_25 1 μ
def fX7_goCompanies_L152 (x27 : Int32) (x32 : Int32) (x33 : Int32) (x7 : Int32) (k_240 : Int32 → Int32 → Int32 → Mm → Aa) (rec_152 : Int32 → Int32 → Int32 → Int32 → Mm → Aa) (x45 : Int32) (x46 : Int32) (x47 : Int32) (x48 : Int32) (m49 : Mm) : Aa := if (m49 0 29) ≤ x48 then (k_240 x45 x46 x47 m49) else (if x32 = 0 then (k_240 x45 x46 x47 m49) else (if x33 = 0 then (k_240 x45 x46 x47 m49) else (mm_ck x48 6 (mm_lt (fun (x50 : Int32) (x51 : Int32) (x52 : Int32) (m53 : Mm) => mm_lt (x48 + 1) (fun (x54 : Int32) => rec_152 x50 x51 x52 x54 m53)) (fun (k_234 : Int32 → Int32 → Int32 → Mm → Aa) => if (m49 20 x48.toNatClampNeg) = x27 then (mm_ck x48 6 (mm_lt (mm_wr m49 22 x48.toNatClampNeg x7) (fun (m55 : Mm) => mm_lt (x45 + (-1)) (fun (x56 : Int32) => mm_lt (fun (x57 : Int32) (m58 : Mm) => mm_lt x57 (fun (x59 : Int32) => mm_cl (fX7_isSpiting x48 m58) (fun (x60 : Int32) (m61 : Mm) => mm_lt (fun (x62 : Int32) (m63 : Mm) => mm_lt (x46 + x62) (fun (x64 : Int32) => k_234 x56 x64 x59 m63)) (fun (k_231 : Int32 → Mm → Aa) => if x60 = 0 then (k_231 0 m61) else (k_231 1 m61))))) (fun (k_213 : Int32 → Mm → Aa) => mm_lt (fun (m65 : Mm) => k_213 1 m65) (fun (k_208 : Mm → Aa) => if x47 = 0 then (mm_cl (fX7_isSpiting x48 m55) (fun (x66 : Int32) (m67 : Mm) => if x66 = 0 then (k_208 m67) else (k_213 0 m67))) else (k_208 m55))))))) else (k_234 x45 x46 x47 m49))))))
def fX7_goCompanies_L62 (x27 : Int32) (k_146 : Int32 → Int32 → Mm → Aa) (rec_62 : Int32 → Int32 → Int32 → Mm → Aa) (x68 : Int32) (x69 : Int32) (x70 : Int32) (m71 : Mm) : Aa := if (m71 0 29) ≤ x70 then (k_146 x68 x69 m71) else (mm_lt (fun (x72 : Int32) (m73 : Mm) => mm_lt x72 (fun (x74 : Int32) => mm_lt (fun (x75 : Int32) (m76 : Mm) => mm_lt x75 (fun (x77 : Int32) => mm_lt (x70 + 1) (fun (x78 : Int32) => rec_62 x74 x77 x78 m76))) (fun (k_138 : Int32 → Mm → Aa) => mm_lt (fun (m79 : Mm) => k_138 0 m79) (fun (k_137 : Mm → Aa) => if x69 = 0 then (k_137 m73) else (mm_ck x70 6 (mm_lt (fun (m80 : Mm) => k_138 1 m80) (fun (k_133 : Mm → Aa) => if (m73 20 x70.toNatClampNeg) = x27 then (mm_ck x70 10 (if (m73 8 x70.toNatClampNeg) = 1 then (k_133 m73) else (k_137 m73))) else (k_133 m73)))))))) (fun (k_103 : Int32 → Mm → Aa) => mm_lt (fun (m81 : Mm) => k_103 1 m81) (fun (k_98 : Mm → Aa) => if x68 = 0 then (mm_ck x70 6 (mm_lt (fun (m82 : Mm) => k_103 0 m82) (fun (k_102 : Mm → Aa) => if (m71 20 x70.toNatClampNeg) = x27 then (mm_ck x70 6 (if 0 ≤ (m71 22 x70.toNatClampNeg) then (k_102 m71) else (k_98 m71))) else (k_102 m71)))) else (k_98 m71))))
def fX7_goCompanies_L44 (x7 : Int32) (k_259 : Int32 → Int32 → Int32 → Mm → Aa) (rec_44 : Int32 → Int32 → Int32 → Int32 → Mm → Aa) (x24 : Int32) (x25 : Int32) (x26 : Int32) (x27 : Int32) (m28 : Mm) : Aa := if (m28 0 29) ≤ x27 then (k_259 x24 x25 x26 m28) else (mm_lt 0 (fun (x29 : Int32) => mm_lt 1 (fun (x30 : Int32) => mm_lt 0 (fun (x31 : Int32) => mm_lt (fun (x32 : Int32) (x33 : Int32) (m34 : Mm) => mm_lt 0 (fun (x35 : Int32) => mm_lt 0 (fun (x36 : Int32) => mm_lt (fun (x37 : Int32) (x38 : Int32) (x39 : Int32) (m40 : Mm) => mm_lt (fun (x41 : Int32) (m42 : Mm) => mm_lt (x25 + x41) (fun (x43 : Int32) => mm_lt (x27 + 1) (fun (x44 : Int32) => rec_44 x37 x43 x38 x44 m42))) (fun (k_251 : Int32 → Mm → Aa) => if x39 = 0 then (k_251 0 m40) else (k_251 1 m40))) (fun (k_240 : Int32 → Int32 → Int32 → Mm → Aa) => mm_lk (fun (_ : Int32) (_ : Int32) (_ : Int32) (_ : Int32) (_ : Mm) => (none : Aa)) (fX7_goCompanies_L152 x27 x32 x33 x7 k_240) mm_fu x24 x26 x35 x36 m34)))) (fun (k_146 : Int32 → Int32 → Mm → Aa) => mm_lk (fun (_ : Int32) (_ : Int32) (_ : Int32) (_ : Mm) => (none : Aa)) (fX7_goCompanies_L62 x27 k_146) mm_fu x29 x30 x31 m28)))))
def fX7_goCompanies_L17 (k_36 : Mm → Aa) (rec_17 : Int32 → Mm → Aa) (x83 : Int32) (m84 : Mm) : Aa := if (m84 0 29) ≤ x83 then (k_36 m84) else (mm_cl (fX7_goSome x83 m84) (fun (x85 : Int32) (m86 : Mm) => mm_lt (x83 + 1) (fun (x87 : Int32) => rec_17 x87 m86)))
def fX7_goCompanies_L11 (k_296 : Mm → Aa) (rec_11 : Int32 → Int32 → Mm → Aa) (x6 : Int32) (x7 : Int32) (m8 : Mm) : Aa := if x6 ≤ 0 then (k_296 m8) else (mm_lt 0 (fun (x9 : Int32) => mm_lt (fun (m10 : Mm) => mm_lt 0 (fun (x11 : Int32) => mm_lt 0 (fun (x12 : Int32) => mm_lt 0 (fun (x13 : Int32) => mm_lt (fun (x14 : Int32) (x15 : Int32) (x16 : Int32) (m17 : Mm) => mm_ck 0 6 (mm_cl (fX7_countsAt 0 x7 x15 x16 m17) (fun (x18 : Int32) (m19 : Mm) => mm_cl (fX7_least 400 ((m17 0 23) + ((m17 2 (0 : Int32).toNatClampNeg) * x18)) m19) (fun (x20 : Int32) (m21 : Mm) => mm_lt (mm_wr m21 0 23 x20) (fun (m22 : Mm) => mm_lt (x7 + 1) (fun (x23 : Int32) => rec_11 x14 x23 m22)))))) (fun (k_259 : Int32 → Int32 → Int32 → Mm → Aa) => mm_lk (fun (_ : Int32) (_ : Int32) (_ : Int32) (_ : Int32) (_ : Mm) => (none : Aa)) (fX7_goCompanies_L44 x7 k_259) mm_fu x6 x11 x12 x13 m10))))) (fun (k_36 : Mm → Aa) => mm_lk (fun (_ : Int32) (_ : Mm) => (none : Aa)) (fX7_goCompanies_L17 k_36) mm_fu x9 m8)))
def fX7_goCompanies (μ : Mm) : Aa := mm_cl (fX7_beginSome μ) (fun (x1 : Int32) (m2 : Mm) => mm_lt (m2 0 29) (fun (x3 : Int32) => mm_lt 1 (fun (x4 : Int32) => mm_lt (fun (m5 : Mm) => some (0, m5)) (fun (k_296 : Mm → Aa) => mm_lk (fun (_ : Int32) (_ : Int32) (_ : Mm) => (none : Aa)) (fX7_goCompanies_L11 k_296) mm_fu x3 x4 m2))))
abbrev rX7_goCompanies : Room := { frames := 3, cells := 0, slots := 0, locals := 65 }
set_option maxRecDepth 100000 in
set_option maxHeartbeats 8000000 in
theorem tX7_goCompanies {l : Launch} {D : va_G} {cA : Nat → ClassId} {adr : Nat → Nat} (hJ : mm_J adr NM) (μ : Mm) : mm_Mv l D cA adr sM NM mm_SM yX7_goCompanies cX7_goCompanies 10 none rX7_goCompanies [.ref (adr 0)] μ (fX7_goCompanies μ) := by
  refine mm_entryv hJ mm_okM (by decide) (Nat.le_of_ble_eq_true rfl) ⟨rfl, rfl⟩ (fun p e s m below meth c X hr => ?_)
  generalize ([.ref (adr 0)] : List Value).toArray = args at X ⊢
  refine gx_lv (lv' := [(0, .ref (adr 0))]) rfl ?_
  unfold fX7_goCompanies
  refine gx_aload_n X 0 1 0 dX7_goCompanies_0 rfl rfl rfl ?_
  refine gx_callvV X 1 4 0 (rest := []) (As := []) (tX7_beginSome hJ μ) (by decide) rfl rfl wc_X7_beginSome wl_X7_271 wi_X7_beginSome ws_X7_beginSome wn_X7 rfl hd_X7_beginSome ⟨Nat.le_of_ble_eq_true rfl, Nat.le_of_ble_eq_true rfl⟩ ⟨rfl, rfl⟩ rfl rfl (Nat.le_of_ble_eq_true rfl) dX7_goCompanies_1 rfl (fun x1 m2 => ?_)
  refine gx_aload_n X 4 5 0 dX7_goCompanies_4 rfl rfl rfl ?_
  refine gx_getI X 5 8 0 (by decide) rfl rfl fg_X7_259 dX7_goCompanies_5 rfl ?_
  refine gx_istore_n X 8 9 (fun x3 => [(1, .int x3), (0, .ref (adr 0))]) dX7_goCompanies_8 rfl rfl (by decide) (fun _ => rfl) (fun x3 => ?_)
  refine gx_iconst X 9 10 (1) dX7_goCompanies_9 rfl ci_1 ?_
  refine gx_istore_n X 10 11 (fun x4 => [(2, .int x4), (1, .int x3), (0, .ref (adr 0))]) dX7_goCompanies_10 rfl rfl (by decide) (fun _ => rfl) (fun x4 => ?_)
  refine gx_jn (fun (k : Mm → Aa) => ∀ (m5 : Mm), mm_G p l e rX7_goCompanies s m args below meth c 10 D cA adr sM NM (mm_Qv D cA adr sM NM) m5 296 [] [] (k m5)) ?_ (fun k_296 hk_296 => ?_)
  · intro m5
    exact gx_vret X 296 hr dX7_goCompanies_296
  refine gx_sub [2, 1, 0] rfl ?_
  refine mm_lk_ind (fun (rec : Int32 → Int32 → Mm → Aa) => ∀ (x6 : Int32) (x7 : Int32) (m8 : Mm), mm_G p l e rX7_goCompanies s m args below meth c 10 D cA adr sM NM (mm_Qv D cA adr sM NM) m8 11 [(0, .ref (adr 0)), (1, .int x6), (2, .int x7)] [] (rec x6 x7 m8)) (fun _ _ _ => gx_none) (fun rec_11 hr_11 x6 x7 m8 => ?_) mm_fu x3 x4 m2
  unfold fX7_goCompanies_L11
  refine gx_iload_n X 11 12 1 dX7_goCompanies_11 rfl rfl rfl ?_
  refine gx_if_le X 12 296 15 dX7_goCompanies_12 rfl rfl ?_ ?_
  · refine gx_sub [] rfl ?_
    exact hk_296 m8
  refine gx_iconst X 15 16 (0) dX7_goCompanies_15 rfl ci_0 ?_
  refine gx_istore_n X 16 17 (fun x9 => [(3, .int x9), (0, .ref (adr 0)), (1, .int x6), (2, .int x7)]) dX7_goCompanies_16 rfl rfl (by decide) (fun _ => rfl) (fun x9 => ?_)
  refine gx_jn (fun (k : Mm → Aa) => ∀ (m10 : Mm), mm_G p l e rX7_goCompanies s m args below meth c 10 D cA adr sM NM (mm_Qv D cA adr sM NM) m10 36 [(0, .ref (adr 0)), (1, .int x6), (2, .int x7)] [] (k m10)) ?_ (fun k_36 hk_36 => ?_)
  · intro m10
    refine gx_iconst X 36 37 (0) dX7_goCompanies_36 rfl ci_0 ?_
    refine gx_istore_n X 37 38 (fun x11 => [(3, .int x11), (0, .ref (adr 0)), (1, .int x6), (2, .int x7)]) dX7_goCompanies_37 rfl rfl (by decide) (fun _ => rfl) (fun x11 => ?_)
    refine gx_iconst X 38 39 (0) dX7_goCompanies_38 rfl ci_0 ?_
    refine gx_istore X 39 41 (fun x12 => [(4, .int x12), (3, .int x11), (0, .ref (adr 0)), (1, .int x6), (2, .int x7)]) dX7_goCompanies_39 rfl (by decide) (fun _ => rfl) (fun x12 => ?_)
    refine gx_iconst X 41 42 (0) dX7_goCompanies_41 rfl ci_0 ?_
    refine gx_istore X 42 44 (fun x13 => [(5, .int x13), (4, .int x12), (3, .int x11), (0, .ref (adr 0)), (1, .int x6), (2, .int x7)]) dX7_goCompanies_42 rfl (by decide) (fun _ => rfl) (fun x13 => ?_)
    refine gx_jn (fun (k : Int32 → Int32 → Int32 → Mm → Aa) => ∀ (x14 : Int32) (x15 : Int32) (x16 : Int32) (m17 : Mm), mm_G p l e rX7_goCompanies s m args below meth c 10 D cA adr sM NM (mm_Qv D cA adr sM NM) m17 259 [(0, .ref (adr 0)), (1, .int x14), (2, .int x7), (3, .int x15), (4, .int x16)] [] (k x14 x15 x16 m17)) ?_ (fun k_259 hk_259 => ?_)
    · intro x14 x15 x16 m17
      refine gx_aload_n X 259 260 0 dX7_goCompanies_259 rfl rfl rfl ?_
      refine gx_sipush X 260 263 (400) dX7_goCompanies_260 rfl cs_400 ?_
      refine gx_aload_n X 263 264 0 dX7_goCompanies_263 rfl rfl rfl ?_
      refine gx_getI X 264 267 0 (by decide) rfl rfl fg_X7_191 dX7_goCompanies_264 rfl ?_
      refine gx_aload_n X 267 268 0 dX7_goCompanies_267 rfl rfl rfl ?_
      refine gx_getR X 268 271 0 (by decide) rfl rfl fg_X7_13 dX7_goCompanies_268 rfl ?_
      refine gx_iconst X 271 272 (0) dX7_goCompanies_271 rfl ci_0 ?_
      refine gx_iaload X 272 273 2 (by decide) rfl dX7_goCompanies_272 rfl ?_
      refine gx_aload_n X 273 274 0 dX7_goCompanies_273 rfl rfl rfl ?_
      refine gx_iconst X 274 275 (0) dX7_goCompanies_274 rfl ci_0 ?_
      refine gx_iload_n X 275 276 2 dX7_goCompanies_275 rfl rfl rfl ?_
      refine gx_iload_n X 276 277 3 dX7_goCompanies_276 rfl rfl rfl ?_
      refine gx_iload X 277 279 4 dX7_goCompanies_277 rfl rfl ?_
      refine gx_calliV X 279 282 0 (rest := [.int (m17 2 (0 : Int32).toNatClampNeg), .int (m17 0 23), .int 400, .ref (adr 0)]) (As := [.int 0, .int x7, .int x15, .int x16]) (tX7_countsAt hJ 0 x7 x15 x16 m17) (by decide) rfl rfl wc_X7_countsAt wl_X7_209 wi_X7_countsAt ws_X7_countsAt wn_X7 rfl hd_X7_countsAt ⟨Nat.le_of_ble_eq_true rfl, Nat.le_of_ble_eq_true rfl⟩ ⟨rfl, rfl⟩ rfl rfl (Nat.le_of_ble_eq_true rfl) dX7_goCompanies_279 rfl (fun x18 m19 => ?_)
      refine gx_imul X 282 283 dX7_goCompanies_282 rfl ?_
      refine gx_iadd X 283 284 dX7_goCompanies_283 rfl ?_
      refine gx_calliS X 284 287 (rest := [.ref (adr 0)]) (As := [.int 400, .int ((m17 0 23) + ((m17 2 (0 : Int32).toNatClampNeg) * x18))]) (tX7_least hJ 400 ((m17 0 23) + ((m17 2 (0 : Int32).toNatClampNeg) * x18)) m19) wc_X7_least wl_X7_203 wt_X7_least wn_X7 hd_X7_least ⟨Nat.le_of_ble_eq_true rfl, Nat.le_of_ble_eq_true rfl⟩ ⟨rfl, rfl⟩ rfl rfl (Nat.le_of_ble_eq_true rfl) dX7_goCompanies_284 rfl (fun x20 m21 => ?_)
      refine gx_putI X 287 290 0 (by decide) rfl rfl fp_X7_191 dX7_goCompanies_287 rfl (fun m22 => ?_)
      refine gx_iinc X 290 293 2 (1) (fun x23 => [(2, .int x23), (0, .ref (adr 0)), (1, .int x14), (3, .int x15), (4, .int x16)]) dX7_goCompanies_290 rfl rfl ci_1 (by decide) (fun _ => rfl) (fun x23 => ?_)
      refine gx_goto X 293 11 dX7_goCompanies_293 rfl ?_
      refine gx_sub [1, 2, 0] rfl ?_
      exact hr_11 x14 x23 m22
    refine gx_sub [3, 4, 5, 2, 1, 0] rfl ?_
    refine mm_lk_ind (fun (rec : Int32 → Int32 → Int32 → Int32 → Mm → Aa) => ∀ (x24 : Int32) (x25 : Int32) (x26 : Int32) (x27 : Int32) (m28 : Mm), mm_G p l e rX7_goCompanies s m args below meth c 10 D cA adr sM NM (mm_Qv D cA adr sM NM) m28 44 [(0, .ref (adr 0)), (1, .int x24), (2, .int x7), (3, .int x25), (4, .int x26), (5, .int x27)] [] (rec x24 x25 x26 x27 m28)) (fun _ _ _ _ _ => gx_none) (fun rec_44 hr_44 x24 x25 x26 x27 m28 => ?_) mm_fu x6 x11 x12 x13 m10
    unfold fX7_goCompanies_L44
    refine gx_iload X 44 46 5 dX7_goCompanies_44 rfl rfl ?_
    refine gx_aload_n X 46 47 0 dX7_goCompanies_46 rfl rfl rfl ?_
    refine gx_getI X 47 50 0 (by decide) rfl rfl fg_X7_259 dX7_goCompanies_47 rfl ?_
    refine gx_icmp_ge X 50 259 53 dX7_goCompanies_50 rfl rfl ?_ ?_
    · refine gx_sub [0, 1, 2, 3, 4] rfl ?_
      exact hk_259 x24 x25 x26 m28
    refine gx_iconst X 53 54 (0) dX7_goCompanies_53 rfl ci_0 ?_
    refine gx_istore X 54 56 (fun x29 => [(6, .int x29), (0, .ref (adr 0)), (1, .int x24), (2, .int x7), (3, .int x25), (4, .int x26), (5, .int x27)]) dX7_goCompanies_54 rfl (by decide) (fun _ => rfl) (fun x29 => ?_)
    refine gx_iconst X 56 57 (1) dX7_goCompanies_56 rfl ci_1 ?_
    refine gx_istore X 57 59 (fun x30 => [(7, .int x30), (6, .int x29), (0, .ref (adr 0)), (1, .int x24), (2, .int x7), (3, .int x25), (4, .int x26), (5, .int x27)]) dX7_goCompanies_57 rfl (by decide) (fun _ => rfl) (fun x30 => ?_)
    refine gx_iconst X 59 60 (0) dX7_goCompanies_59 rfl ci_0 ?_
    refine gx_istore X 60 62 (fun x31 => [(8, .int x31), (7, .int x30), (6, .int x29), (0, .ref (adr 0)), (1, .int x24), (2, .int x7), (3, .int x25), (4, .int x26), (5, .int x27)]) dX7_goCompanies_60 rfl (by decide) (fun _ => rfl) (fun x31 => ?_)
    refine gx_jn (fun (k : Int32 → Int32 → Mm → Aa) => ∀ (x32 : Int32) (x33 : Int32) (m34 : Mm), mm_G p l e rX7_goCompanies s m args below meth c 10 D cA adr sM NM (mm_Qv D cA adr sM NM) m34 146 [(0, .ref (adr 0)), (1, .int x24), (2, .int x7), (3, .int x25), (4, .int x26), (5, .int x27), (6, .int x32), (7, .int x33)] [] (k x32 x33 m34)) ?_ (fun k_146 hk_146 => ?_)
    · intro x32 x33 m34
      refine gx_iconst X 146 147 (0) dX7_goCompanies_146 rfl ci_0 ?_
      refine gx_istore X 147 149 (fun x35 => [(8, .int x35), (0, .ref (adr 0)), (1, .int x24), (2, .int x7), (3, .int x25), (4, .int x26), (5, .int x27), (6, .int x32), (7, .int x33)]) dX7_goCompanies_147 rfl (by decide) (fun _ => rfl) (fun x35 => ?_)
      refine gx_iconst X 149 150 (0) dX7_goCompanies_149 rfl ci_0 ?_
      refine gx_istore X 150 152 (fun x36 => [(9, .int x36), (8, .int x35), (0, .ref (adr 0)), (1, .int x24), (2, .int x7), (3, .int x25), (4, .int x26), (5, .int x27), (6, .int x32), (7, .int x33)]) dX7_goCompanies_150 rfl (by decide) (fun _ => rfl) (fun x36 => ?_)
      refine gx_jn (fun (k : Int32 → Int32 → Int32 → Mm → Aa) => ∀ (x37 : Int32) (x38 : Int32) (x39 : Int32) (m40 : Mm), mm_G p l e rX7_goCompanies s m args below meth c 10 D cA adr sM NM (mm_Qv D cA adr sM NM) m40 240 [(0, .ref (adr 0)), (1, .int x37), (2, .int x7), (3, .int x25), (4, .int x38), (5, .int x27), (8, .int x39)] [] (k x37 x38 x39 m40)) ?_ (fun k_240 hk_240 => ?_)
      · intro x37 x38 x39 m40
        refine gx_iload_n X 240 241 3 dX7_goCompanies_240 rfl rfl rfl ?_
        refine gx_iload X 241 243 6 dX7_goCompanies_241 rfl rfl ?_
        refine gx_jn (fun (k : Int32 → Mm → Aa) => ∀ (x41 : Int32) (m42 : Mm), mm_G p l e rX7_goCompanies s m args below meth c 10 D cA adr sM NM (mm_Qv D cA adr sM NM) m42 251 [(0, .ref (adr 0)), (1, .int x37), (2, .int x7), (4, .int x38), (5, .int x27)] [.int x41, .int x25] (k x41 m42)) ?_ (fun k_251 hk_251 => ?_)
        · intro x41 m42
          refine gx_iadd X 251 252 dX7_goCompanies_251 rfl ?_
          refine gx_istore_n X 252 253 (fun x43 => [(3, .int x43), (0, .ref (adr 0)), (1, .int x37), (2, .int x7), (4, .int x38), (5, .int x27)]) dX7_goCompanies_252 rfl rfl (by decide) (fun _ => rfl) (fun x43 => ?_)
          refine gx_iinc X 253 256 5 (1) (fun x44 => [(5, .int x44), (3, .int x43), (0, .ref (adr 0)), (1, .int x37), (2, .int x7), (4, .int x38)]) dX7_goCompanies_253 rfl rfl ci_1 (by decide) (fun _ => rfl) (fun x44 => ?_)
          refine gx_goto X 256 44 dX7_goCompanies_256 rfl ?_
          refine gx_sub [2, 3, 4, 1, 5, 0] rfl ?_
          exact hr_44 x37 x43 x38 x44 m42
        refine gx_if_eq X 243 250 246 dX7_goCompanies_243 rfl rfl ?_ ?_
        · refine gx_iconst X 250 251 (0) dX7_goCompanies_250 rfl ci_0 ?_
          refine gx_sub [0, 1, 2, 4, 5] rfl ?_
          exact hk_251 0 m40
        refine gx_iconst X 246 247 (1) dX7_goCompanies_246 rfl ci_1 ?_
        refine gx_goto X 247 251 dX7_goCompanies_247 rfl ?_
        refine gx_sub [0, 1, 2, 4, 5] rfl ?_
        exact hk_251 1 m40
      refine gx_sub [2, 3, 4, 5, 6, 7, 8, 9, 1, 0] rfl ?_
      refine mm_lk_ind (fun (rec : Int32 → Int32 → Int32 → Int32 → Mm → Aa) => ∀ (x45 : Int32) (x46 : Int32) (x47 : Int32) (x48 : Int32) (m49 : Mm), mm_G p l e rX7_goCompanies s m args below meth c 10 D cA adr sM NM (mm_Qv D cA adr sM NM) m49 152 [(0, .ref (adr 0)), (1, .int x45), (2, .int x7), (3, .int x25), (4, .int x46), (5, .int x27), (6, .int x32), (7, .int x33), (8, .int x47), (9, .int x48)] [] (rec x45 x46 x47 x48 m49)) (fun _ _ _ _ _ => gx_none) (fun rec_152 hr_152 x45 x46 x47 x48 m49 => ?_) mm_fu x24 x26 x35 x36 m34
      unfold fX7_goCompanies_L152
      refine gx_iload X 152 154 9 dX7_goCompanies_152 rfl rfl ?_
      refine gx_aload_n X 154 155 0 dX7_goCompanies_154 rfl rfl rfl ?_
      refine gx_getI X 155 158 0 (by decide) rfl rfl fg_X7_259 dX7_goCompanies_155 rfl ?_
      refine gx_icmp_ge X 158 240 161 dX7_goCompanies_158 rfl rfl ?_ ?_
      · refine gx_sub [0, 1, 2, 3, 4, 5, 8] rfl ?_
        exact hk_240 x45 x46 x47 m49
      refine gx_iload X 161 163 6 dX7_goCompanies_161 rfl rfl ?_
      refine gx_if_eq X 163 240 166 dX7_goCompanies_163 rfl rfl ?_ ?_
      · refine gx_sub [0, 1, 2, 3, 4, 5, 8] rfl ?_
        exact hk_240 x45 x46 x47 m49
      refine gx_iload X 166 168 7 dX7_goCompanies_166 rfl rfl ?_
      refine gx_if_eq X 168 240 171 dX7_goCompanies_168 rfl rfl ?_ ?_
      · refine gx_sub [0, 1, 2, 3, 4, 5, 8] rfl ?_
        exact hk_240 x45 x46 x47 m49
      refine gx_aload_n X 171 172 0 dX7_goCompanies_171 rfl rfl rfl ?_
      refine gx_getR X 172 175 0 (by decide) rfl rfl fg_X7_74 dX7_goCompanies_172 rfl ?_
      refine gx_iload X 175 177 9 dX7_goCompanies_175 rfl rfl ?_
      refine gx_iaload X 177 178 20 (by decide) rfl dX7_goCompanies_177 rfl ?_
      refine gx_iload X 178 180 5 dX7_goCompanies_178 rfl rfl ?_
      refine gx_jn (fun (k : Int32 → Int32 → Int32 → Mm → Aa) => ∀ (x50 : Int32) (x51 : Int32) (x52 : Int32) (m53 : Mm), mm_G p l e rX7_goCompanies s m args below meth c 10 D cA adr sM NM (mm_Qv D cA adr sM NM) m53 234 [(0, .ref (adr 0)), (1, .int x50), (2, .int x7), (3, .int x25), (4, .int x51), (5, .int x27), (6, .int x32), (7, .int x33), (8, .int x52), (9, .int x48)] [] (k x50 x51 x52 m53)) ?_ (fun k_234 hk_234 => ?_)
      · intro x50 x51 x52 m53
        refine gx_iinc X 234 237 9 (1) (fun x54 => [(9, .int x54), (0, .ref (adr 0)), (1, .int x50), (2, .int x7), (3, .int x25), (4, .int x51), (5, .int x27), (6, .int x32), (7, .int x33), (8, .int x52)]) dX7_goCompanies_234 rfl rfl ci_1 (by decide) (fun _ => rfl) (fun x54 => ?_)
        refine gx_goto X 237 152 dX7_goCompanies_237 rfl ?_
        refine gx_sub [1, 2, 3, 4, 5, 6, 7, 8, 9, 0] rfl ?_
        exact hr_152 x50 x51 x52 x54 m53
      refine gx_icmp_ne X 180 234 183 dX7_goCompanies_180 rfl rfl ?_ ?_
      · exact hk_234 x45 x46 x47 m49
      refine gx_aload_n X 183 184 0 dX7_goCompanies_183 rfl rfl rfl ?_
      refine gx_getR X 184 187 0 (by decide) rfl rfl fg_X7_80 dX7_goCompanies_184 rfl ?_
      refine gx_iload X 187 189 9 dX7_goCompanies_187 rfl rfl ?_
      refine gx_iload_n X 189 190 2 dX7_goCompanies_189 rfl rfl rfl ?_
      refine gx_iastore X 190 191 22 (by decide) rfl dX7_goCompanies_190 rfl (fun m55 => ?_)
      refine gx_iinc X 191 194 1 (-1) (fun x56 => [(1, .int x56), (0, .ref (adr 0)), (2, .int x7), (3, .int x25), (4, .int x46), (5, .int x27), (6, .int x32), (7, .int x33), (8, .int x47), (9, .int x48)]) dX7_goCompanies_191 rfl rfl ci_m1 (by decide) (fun _ => rfl) (fun x56 => ?_)
      refine gx_iload X 194 196 8 dX7_goCompanies_194 rfl rfl ?_
      refine gx_jn (fun (k : Int32 → Mm → Aa) => ∀ (x57 : Int32) (m58 : Mm), mm_G p l e rX7_goCompanies s m args below meth c 10 D cA adr sM NM (mm_Qv D cA adr sM NM) m58 213 [(0, .ref (adr 0)), (1, .int x56), (2, .int x7), (3, .int x25), (4, .int x46), (5, .int x27), (6, .int x32), (7, .int x33), (9, .int x48)] [.int x57] (k x57 m58)) ?_ (fun k_213 hk_213 => ?_)
      · intro x57 m58
        refine gx_istore X 213 215 (fun x59 => [(8, .int x59), (0, .ref (adr 0)), (1, .int x56), (2, .int x7), (3, .int x25), (4, .int x46), (5, .int x27), (6, .int x32), (7, .int x33), (9, .int x48)]) dX7_goCompanies_213 rfl (by decide) (fun _ => rfl) (fun x59 => ?_)
        refine gx_iload X 215 217 5 dX7_goCompanies_215 rfl rfl ?_
        refine gx_aload_n X 217 218 1 dX7_goCompanies_217 rfl rfl rfl ?_
        refine gx_iload X 218 220 9 dX7_goCompanies_218 rfl rfl ?_
        refine gx_calliV X 220 223 0 (rest := [.int x46]) (As := [.int x48]) (tX7_isSpiting hJ x48 m58) (by decide) rfl rfl wc_X7_isSpiting wl_X7_277 wi_X7_isSpiting ws_X7_isSpiting wn_X7 rfl hd_X7_isSpiting ⟨Nat.le_of_ble_eq_true rfl, Nat.le_of_ble_eq_true rfl⟩ ⟨rfl, rfl⟩ rfl rfl (Nat.le_of_ble_eq_true rfl) dX7_goCompanies_220 rfl (fun x60 m61 => ?_)
        refine gx_jn (fun (k : Int32 → Mm → Aa) => ∀ (x62 : Int32) (m63 : Mm), mm_G p l e rX7_goCompanies s m args below meth c 10 D cA adr sM NM (mm_Qv D cA adr sM NM) m63 231 [(0, .ref (adr 0)), (1, .int x56), (2, .int x7), (3, .int x25), (5, .int x27), (6, .int x32), (7, .int x33), (8, .int x59), (9, .int x48)] [.int x62, .int x46] (k x62 m63)) ?_ (fun k_231 hk_231 => ?_)
        · intro x62 m63
          refine gx_iadd X 231 232 dX7_goCompanies_231 rfl ?_
          refine gx_istore X 232 234 (fun x64 => [(4, .int x64), (0, .ref (adr 0)), (1, .int x56), (2, .int x7), (3, .int x25), (5, .int x27), (6, .int x32), (7, .int x33), (8, .int x59), (9, .int x48)]) dX7_goCompanies_232 rfl (by decide) (fun _ => rfl) (fun x64 => ?_)
          refine gx_sub [1, 2, 3, 4, 0, 5, 6, 7, 8, 9] rfl ?_
          exact hk_234 x56 x64 x59 m63
        refine gx_if_eq X 223 230 226 dX7_goCompanies_223 rfl rfl ?_ ?_
        · refine gx_iconst X 230 231 (0) dX7_goCompanies_230 rfl ci_0 ?_
          refine gx_sub [1, 2, 3, 4, 6, 7, 8, 0, 9] rfl ?_
          exact hk_231 0 m61
        refine gx_iconst X 226 227 (1) dX7_goCompanies_226 rfl ci_1 ?_
        refine gx_goto X 227 231 dX7_goCompanies_227 rfl ?_
        refine gx_sub [1, 2, 3, 4, 6, 7, 8, 0, 9] rfl ?_
        exact hk_231 1 m61
      refine gx_jn (fun (k : Mm → Aa) => ∀ (m65 : Mm), mm_G p l e rX7_goCompanies s m args below meth c 10 D cA adr sM NM (mm_Qv D cA adr sM NM) m65 208 [(0, .ref (adr 0)), (1, .int x56), (2, .int x7), (3, .int x25), (4, .int x46), (5, .int x27), (6, .int x32), (7, .int x33), (9, .int x48)] [] (k m65)) ?_ (fun k_208 hk_208 => ?_)
      · intro m65
        refine gx_iconst X 208 209 (1) dX7_goCompanies_208 rfl ci_1 ?_
        refine gx_goto X 209 213 dX7_goCompanies_209 rfl ?_
        exact hk_213 1 m65
      refine gx_if_ne X 196 208 199 dX7_goCompanies_196 rfl rfl ?_ ?_
      · refine gx_sub [1, 0, 2, 3, 4, 5, 6, 7, 9] rfl ?_
        exact hk_208 m55
      refine gx_aload_n X 199 200 1 dX7_goCompanies_199 rfl rfl rfl ?_
      refine gx_iload X 200 202 9 dX7_goCompanies_200 rfl rfl ?_
      refine gx_calliV X 202 205 0 (rest := []) (As := [.int x48]) (tX7_isSpiting hJ x48 m55) (by decide) rfl rfl wc_X7_isSpiting wl_X7_277 wi_X7_isSpiting ws_X7_isSpiting wn_X7 rfl hd_X7_isSpiting ⟨Nat.le_of_ble_eq_true rfl, Nat.le_of_ble_eq_true rfl⟩ ⟨rfl, rfl⟩ rfl rfl (Nat.le_of_ble_eq_true rfl) dX7_goCompanies_202 rfl (fun x66 m67 => ?_)
      refine gx_if_ne X 205 212 208 dX7_goCompanies_205 rfl rfl ?_ ?_
      · refine gx_iconst X 212 213 (0) dX7_goCompanies_212 rfl ci_0 ?_
        refine gx_sub [1, 0, 2, 3, 4, 5, 6, 7, 9] rfl ?_
        exact hk_213 0 m67
      refine gx_sub [1, 0, 2, 3, 4, 5, 6, 7, 9] rfl ?_
      exact hk_208 m67
    refine gx_sub [3, 4, 5, 6, 7, 8, 2, 1, 0] rfl ?_
    refine mm_lk_ind (fun (rec : Int32 → Int32 → Int32 → Mm → Aa) => ∀ (x68 : Int32) (x69 : Int32) (x70 : Int32) (m71 : Mm), mm_G p l e rX7_goCompanies s m args below meth c 10 D cA adr sM NM (mm_Qv D cA adr sM NM) m71 62 [(0, .ref (adr 0)), (1, .int x24), (2, .int x7), (3, .int x25), (4, .int x26), (5, .int x27), (6, .int x68), (7, .int x69), (8, .int x70)] [] (rec x68 x69 x70 m71)) (fun _ _ _ _ => gx_none) (fun rec_62 hr_62 x68 x69 x70 m71 => ?_) mm_fu x29 x30 x31 m28
    unfold fX7_goCompanies_L62
    refine gx_iload X 62 64 8 dX7_goCompanies_62 rfl rfl ?_
    refine gx_aload_n X 64 65 0 dX7_goCompanies_64 rfl rfl rfl ?_
    refine gx_getI X 65 68 0 (by decide) rfl rfl fg_X7_259 dX7_goCompanies_65 rfl ?_
    refine gx_icmp_ge X 68 146 71 dX7_goCompanies_68 rfl rfl ?_ ?_
    · refine gx_sub [0, 1, 2, 3, 4, 5, 6, 7] rfl ?_
      exact hk_146 x68 x69 m71
    refine gx_iload X 71 73 6 dX7_goCompanies_71 rfl rfl ?_
    refine gx_jn (fun (k : Int32 → Mm → Aa) => ∀ (x72 : Int32) (m73 : Mm), mm_G p l e rX7_goCompanies s m args below meth c 10 D cA adr sM NM (mm_Qv D cA adr sM NM) m73 103 [(0, .ref (adr 0)), (1, .int x24), (2, .int x7), (3, .int x25), (4, .int x26), (5, .int x27), (7, .int x69), (8, .int x70)] [.int x72] (k x72 m73)) ?_ (fun k_103 hk_103 => ?_)
    · intro x72 m73
      refine gx_istore X 103 105 (fun x74 => [(6, .int x74), (0, .ref (adr 0)), (1, .int x24), (2, .int x7), (3, .int x25), (4, .int x26), (5, .int x27), (7, .int x69), (8, .int x70)]) dX7_goCompanies_103 rfl (by decide) (fun _ => rfl) (fun x74 => ?_)
      refine gx_iload X 105 107 7 dX7_goCompanies_105 rfl rfl ?_
      refine gx_jn (fun (k : Int32 → Mm → Aa) => ∀ (x75 : Int32) (m76 : Mm), mm_G p l e rX7_goCompanies s m args below meth c 10 D cA adr sM NM (mm_Qv D cA adr sM NM) m76 138 [(0, .ref (adr 0)), (1, .int x24), (2, .int x7), (3, .int x25), (4, .int x26), (5, .int x27), (6, .int x74), (8, .int x70)] [.int x75] (k x75 m76)) ?_ (fun k_138 hk_138 => ?_)
      · intro x75 m76
        refine gx_istore X 138 140 (fun x77 => [(7, .int x77), (0, .ref (adr 0)), (1, .int x24), (2, .int x7), (3, .int x25), (4, .int x26), (5, .int x27), (6, .int x74), (8, .int x70)]) dX7_goCompanies_138 rfl (by decide) (fun _ => rfl) (fun x77 => ?_)
        refine gx_iinc X 140 143 8 (1) (fun x78 => [(8, .int x78), (7, .int x77), (0, .ref (adr 0)), (1, .int x24), (2, .int x7), (3, .int x25), (4, .int x26), (5, .int x27), (6, .int x74)]) dX7_goCompanies_140 rfl rfl ci_1 (by decide) (fun _ => rfl) (fun x78 => ?_)
        refine gx_goto X 143 62 dX7_goCompanies_143 rfl ?_
        refine gx_sub [2, 3, 4, 5, 6, 7, 8, 1, 0] rfl ?_
        exact hr_62 x74 x77 x78 m76
      refine gx_jn (fun (k : Mm → Aa) => ∀ (m79 : Mm), mm_G p l e rX7_goCompanies s m args below meth c 10 D cA adr sM NM (mm_Qv D cA adr sM NM) m79 137 [(0, .ref (adr 0)), (1, .int x24), (2, .int x7), (3, .int x25), (4, .int x26), (5, .int x27), (6, .int x74), (8, .int x70)] [] (k m79)) ?_ (fun k_137 hk_137 => ?_)
      · intro m79
        refine gx_iconst X 137 138 (0) dX7_goCompanies_137 rfl ci_0 ?_
        exact hk_138 0 m79
      refine gx_if_eq X 107 137 110 dX7_goCompanies_107 rfl rfl ?_ ?_
      · refine gx_sub [1, 2, 3, 4, 5, 6, 0, 8] rfl ?_
        exact hk_137 m73
      refine gx_aload_n X 110 111 1 dX7_goCompanies_110 rfl rfl rfl ?_
      refine gx_getR X 111 114 0 (by decide) rfl rfl fg_X7_74 dX7_goCompanies_111 rfl ?_
      refine gx_iload X 114 116 8 dX7_goCompanies_114 rfl rfl ?_
      refine gx_iaload X 116 117 20 (by decide) rfl dX7_goCompanies_116 rfl ?_
      refine gx_iload X 117 119 6 dX7_goCompanies_117 rfl rfl ?_
      refine gx_jn (fun (k : Mm → Aa) => ∀ (m80 : Mm), mm_G p l e rX7_goCompanies s m args below meth c 10 D cA adr sM NM (mm_Qv D cA adr sM NM) m80 133 [(0, .ref (adr 0)), (1, .int x24), (2, .int x7), (3, .int x25), (4, .int x26), (5, .int x27), (6, .int x74), (8, .int x70)] [] (k m80)) ?_ (fun k_133 hk_133 => ?_)
      · intro m80
        refine gx_iconst X 133 134 (1) dX7_goCompanies_133 rfl ci_1 ?_
        refine gx_goto X 134 138 dX7_goCompanies_134 rfl ?_
        exact hk_138 1 m80
      refine gx_icmp_ne X 119 133 122 dX7_goCompanies_119 rfl rfl ?_ ?_
      · refine gx_sub [1, 2, 3, 4, 5, 6, 0, 8] rfl ?_
        exact hk_133 m73
      refine gx_aload_n X 122 123 1 dX7_goCompanies_122 rfl rfl rfl ?_
      refine gx_getR X 123 126 0 (by decide) rfl rfl fg_X7_35 dX7_goCompanies_123 rfl ?_
      refine gx_iload X 126 128 8 dX7_goCompanies_126 rfl rfl ?_
      refine gx_iaload X 128 129 8 (by decide) rfl dX7_goCompanies_128 rfl ?_
      refine gx_iconst X 129 130 (1) dX7_goCompanies_129 rfl ci_1 ?_
      refine gx_icmp_ne X 130 137 133 dX7_goCompanies_130 rfl rfl ?_ ?_
      · refine gx_sub [1, 2, 3, 4, 5, 6, 0, 8] rfl ?_
        exact hk_137 m73
      refine gx_sub [1, 2, 3, 4, 5, 6, 0, 8] rfl ?_
      exact hk_133 m73
    refine gx_jn (fun (k : Mm → Aa) => ∀ (m81 : Mm), mm_G p l e rX7_goCompanies s m args below meth c 10 D cA adr sM NM (mm_Qv D cA adr sM NM) m81 98 [(0, .ref (adr 0)), (1, .int x24), (2, .int x7), (3, .int x25), (4, .int x26), (5, .int x27), (7, .int x69), (8, .int x70)] [] (k m81)) ?_ (fun k_98 hk_98 => ?_)
    · intro m81
      refine gx_iconst X 98 99 (1) dX7_goCompanies_98 rfl ci_1 ?_
      refine gx_goto X 99 103 dX7_goCompanies_99 rfl ?_
      exact hk_103 1 m81
    refine gx_if_ne X 73 98 76 dX7_goCompanies_73 rfl rfl ?_ ?_
    · refine gx_sub [0, 1, 2, 3, 4, 5, 7, 8] rfl ?_
      exact hk_98 m71
    refine gx_aload_n X 76 77 0 dX7_goCompanies_76 rfl rfl rfl ?_
    refine gx_getR X 77 80 0 (by decide) rfl rfl fg_X7_74 dX7_goCompanies_77 rfl ?_
    refine gx_iload X 80 82 8 dX7_goCompanies_80 rfl rfl ?_
    refine gx_iaload X 82 83 20 (by decide) rfl dX7_goCompanies_82 rfl ?_
    refine gx_iload X 83 85 5 dX7_goCompanies_83 rfl rfl ?_
    refine gx_jn (fun (k : Mm → Aa) => ∀ (m82 : Mm), mm_G p l e rX7_goCompanies s m args below meth c 10 D cA adr sM NM (mm_Qv D cA adr sM NM) m82 102 [(0, .ref (adr 0)), (1, .int x24), (2, .int x7), (3, .int x25), (4, .int x26), (5, .int x27), (7, .int x69), (8, .int x70)] [] (k m82)) ?_ (fun k_102 hk_102 => ?_)
    · intro m82
      refine gx_iconst X 102 103 (0) dX7_goCompanies_102 rfl ci_0 ?_
      exact hk_103 0 m82
    refine gx_icmp_ne X 85 102 88 dX7_goCompanies_85 rfl rfl ?_ ?_
    · refine gx_sub [0, 1, 2, 3, 4, 5, 7, 8] rfl ?_
      exact hk_102 m71
    refine gx_aload_n X 88 89 0 dX7_goCompanies_88 rfl rfl rfl ?_
    refine gx_getR X 89 92 0 (by decide) rfl rfl fg_X7_80 dX7_goCompanies_89 rfl ?_
    refine gx_iload X 92 94 8 dX7_goCompanies_92 rfl rfl ?_
    refine gx_iaload X 94 95 22 (by decide) rfl dX7_goCompanies_94 rfl ?_
    refine gx_if_ge X 95 102 98 dX7_goCompanies_95 rfl rfl ?_ ?_
    · refine gx_sub [0, 1, 2, 3, 4, 5, 7, 8] rfl ?_
      exact hk_102 m71
    refine gx_sub [0, 1, 2, 3, 4, 5, 7, 8] rfl ?_
    exact hk_98 m71
  refine gx_sub [1, 2, 3, 0] rfl ?_
  refine mm_lk_ind (fun (rec : Int32 → Mm → Aa) => ∀ (x83 : Int32) (m84 : Mm), mm_G p l e rX7_goCompanies s m args below meth c 10 D cA adr sM NM (mm_Qv D cA adr sM NM) m84 17 [(0, .ref (adr 0)), (1, .int x6), (2, .int x7), (3, .int x83)] [] (rec x83 m84)) (fun _ _ => gx_none) (fun rec_17 hr_17 x83 m84 => ?_) mm_fu x9 m8
  unfold fX7_goCompanies_L17
  refine gx_iload_n X 17 18 3 dX7_goCompanies_17 rfl rfl rfl ?_
  refine gx_aload_n X 18 19 0 dX7_goCompanies_18 rfl rfl rfl ?_
  refine gx_getI X 19 22 0 (by decide) rfl rfl fg_X7_259 dX7_goCompanies_19 rfl ?_
  refine gx_icmp_ge X 22 36 25 dX7_goCompanies_22 rfl rfl ?_ ?_
  · refine gx_sub [0, 1, 2] rfl ?_
    exact hk_36 m84
  refine gx_aload_n X 25 26 0 dX7_goCompanies_25 rfl rfl rfl ?_
  refine gx_iload_n X 26 27 3 dX7_goCompanies_26 rfl rfl rfl ?_
  refine gx_callvV X 27 30 0 (rest := []) (As := [.int x83]) (tX7_goSome hJ x83 m84) (by decide) rfl rfl wc_X7_goSome wl_X7_274 wi_X7_goSome ws_X7_goSome wn_X7 rfl hd_X7_goSome ⟨Nat.le_of_ble_eq_true rfl, Nat.le_of_ble_eq_true rfl⟩ ⟨rfl, rfl⟩ rfl rfl (Nat.le_of_ble_eq_true rfl) dX7_goCompanies_27 rfl (fun x85 m86 => ?_)
  refine gx_iinc X 30 33 3 (1) (fun x87 => [(3, .int x87), (0, .ref (adr 0)), (1, .int x6), (2, .int x7)]) dX7_goCompanies_30 rfl rfl ci_1 (by decide) (fun _ => rfl) (fun x87 => ?_)
  refine gx_goto X 33 17 dX7_goCompanies_33 rfl ?_
  refine gx_sub [1, 2, 3, 0] rfl ?_
  exact hr_17 x87 m86
def fX7_nextRow_L61 (k_80 : Mm → Aa) (rec_61 : Int32 → Mm → Aa) (x8 : Int32) (m9 : Mm) : Aa := if 6 ≤ x8 then (k_80 m9) else (mm_ck x8 6 (mm_lt (mm_wr m9 20 x8.toNatClampNeg 0) (fun (m10 : Mm) => mm_lt (x8 + 1) (fun (x11 : Int32) => rec_61 x11 m10))))
def fX7_nextRow_L15 (x12 : Int32) (k_37 : Int32 → Mm → Aa) (rec_15 : Int32 → Int32 → Mm → Aa) (x19 : Int32) (x20 : Int32) (m21 : Mm) : Aa := if x12 ≤ x20 then (k_37 x19 m21) else (mm_ck x20 6 (mm_cl (fX7_most x19 (m21 20 x20.toNatClampNeg) m21) (fun (x22 : Int32) (m23 : Mm) => mm_lt x22 (fun (x24 : Int32) => mm_lt (x20 + 1) (fun (x25 : Int32) => rec_15 x24 x25 m23)))))
def fX7_nextRow_L7 (k_47 : Int32 → Mm → Aa) (k_88 : Mm → Aa) (rec_7 : Int32 → Mm → Aa) (x12 : Int32) (m13 : Mm) : Aa := if x12 ≤ 0 then (k_88 m13) else (mm_lt 0 (fun (x14 : Int32) => mm_lt 0 (fun (x15 : Int32) => mm_lt (fun (x16 : Int32) (m17 : Mm) => mm_ck x12 6 (if x16 < (m17 20 x12.toNatClampNeg) then (mm_lt (x12 + (-1)) (fun (x18 : Int32) => rec_7 x18 m17)) else (k_47 x12 m17))) (fun (k_37 : Int32 → Mm → Aa) => mm_lk (fun (_ : Int32) (_ : Int32) (_ : Mm) => (none : Aa)) (fX7_nextRow_L15 x12 k_37) mm_fu x14 x15 m13))))
def fX7_nextRow (μ : Mm) : Aa := mm_lt ((μ 0 29) - 1) (fun (x1 : Int32) => mm_lt (fun (m2 : Mm) => mm_bo 0 (some (0, m2))) (fun (k_88 : Mm → Aa) => mm_lt (fun (x3 : Int32) (m4 : Mm) => mm_ck x3 6 (mm_ck x3 6 (mm_lt (mm_wr m4 20 x3.toNatClampNeg ((m4 20 x3.toNatClampNeg) + 1)) (fun (m5 : Mm) => mm_lt (x3 + 1) (fun (x6 : Int32) => mm_lt (fun (m7 : Mm) => mm_bo 1 (some (1, m7))) (fun (k_80 : Mm → Aa) => mm_lk (fun (_ : Int32) (_ : Mm) => (none : Aa)) (fX7_nextRow_L61 k_80) mm_fu x6 m5)))))) (fun (k_47 : Int32 → Mm → Aa) => mm_lk (fun (_ : Int32) (_ : Mm) => (none : Aa)) (fX7_nextRow_L7 k_47 k_88) mm_fu x1 μ)))
abbrev rX7_nextRow : Room := { frames := 1, cells := 0, slots := 0, locals := 21 }
set_option maxRecDepth 100000 in
set_option maxHeartbeats 8000000 in
theorem tX7_nextRow {l : Launch} {D : va_G} {cA : Nat → ClassId} {adr : Nat → Nat} (hJ : mm_J adr NM) (μ : Mm) : mm_Mi l D cA adr sM NM mm_SM yX7_nextRow cX7_nextRow 4 (some .boolean) rX7_nextRow [.ref (adr 0)] μ (fX7_nextRow μ) := by
  refine mm_entryi hJ mm_okM (by decide) (Nat.le_of_ble_eq_true rfl) ⟨rfl, rfl⟩ (fun p e s m below meth c X hr => ?_)
  generalize ([.ref (adr 0)] : List Value).toArray = args at X ⊢
  refine gx_lv (lv' := [(0, .ref (adr 0))]) rfl ?_
  unfold fX7_nextRow
  refine gx_aload_n X 0 1 0 dX7_nextRow_0 rfl rfl rfl ?_
  refine gx_getI X 1 4 0 (by decide) rfl rfl fg_X7_259 dX7_nextRow_1 rfl ?_
  refine gx_iconst X 4 5 (1) dX7_nextRow_4 rfl ci_1 ?_
  refine gx_isub X 5 6 dX7_nextRow_5 rfl ?_
  refine gx_istore_n X 6 7 (fun x1 => [(1, .int x1), (0, .ref (adr 0))]) dX7_nextRow_6 rfl rfl (by decide) (fun _ => rfl) (fun x1 => ?_)
  refine gx_jn (fun (k : Mm → Aa) => ∀ (m2 : Mm), mm_G p l e rX7_nextRow s m args below meth c 4 D cA adr sM NM (mm_Qi D cA adr sM NM) m2 88 [] [] (k m2)) ?_ (fun k_88 hk_88 => ?_)
  · intro m2
    refine gx_iconst X 88 89 (0) dX7_nextRow_88 rfl ci_0 ?_
    exact gx_zret X 89 hr dX7_nextRow_89
  refine gx_jn (fun (k : Int32 → Mm → Aa) => ∀ (x3 : Int32) (m4 : Mm), mm_G p l e rX7_nextRow s m args below meth c 4 D cA adr sM NM (mm_Qi D cA adr sM NM) m4 47 [(0, .ref (adr 0)), (1, .int x3)] [] (k x3 m4)) ?_ (fun k_47 hk_47 => ?_)
  · intro x3 m4
    refine gx_aload_n X 47 48 0 dX7_nextRow_47 rfl rfl rfl ?_
    refine gx_getR X 48 51 0 (by decide) rfl rfl fg_X7_74 dX7_nextRow_48 rfl ?_
    refine gx_iload_n X 51 52 1 dX7_nextRow_51 rfl rfl rfl ?_
    refine gx_dup2 X 52 53 dX7_nextRow_52 rfl rfl rfl ?_
    refine gx_iaload X 53 54 20 (by decide) rfl dX7_nextRow_53 rfl ?_
    refine gx_iconst X 54 55 (1) dX7_nextRow_54 rfl ci_1 ?_
    refine gx_iadd X 55 56 dX7_nextRow_55 rfl ?_
    refine gx_iastore X 56 57 20 (by decide) rfl dX7_nextRow_56 rfl (fun m5 => ?_)
    refine gx_iload_n X 57 58 1 dX7_nextRow_57 rfl rfl rfl ?_
    refine gx_iconst X 58 59 (1) dX7_nextRow_58 rfl ci_1 ?_
    refine gx_iadd X 59 60 dX7_nextRow_59 rfl ?_
    refine gx_istore_n X 60 61 (fun x6 => [(3, .int x6), (0, .ref (adr 0)), (1, .int x3)]) dX7_nextRow_60 rfl rfl (by decide) (fun _ => rfl) (fun x6 => ?_)
    refine gx_jn (fun (k : Mm → Aa) => ∀ (m7 : Mm), mm_G p l e rX7_nextRow s m args below meth c 4 D cA adr sM NM (mm_Qi D cA adr sM NM) m7 80 [] [] (k m7)) ?_ (fun k_80 hk_80 => ?_)
    · intro m7
      refine gx_iconst X 80 81 (1) dX7_nextRow_80 rfl ci_1 ?_
      exact gx_zret X 81 hr dX7_nextRow_81
    refine gx_sub [1, 0] rfl ?_
    refine mm_lk_ind (fun (rec : Int32 → Mm → Aa) => ∀ (x8 : Int32) (m9 : Mm), mm_G p l e rX7_nextRow s m args below meth c 4 D cA adr sM NM (mm_Qi D cA adr sM NM) m9 61 [(0, .ref (adr 0)), (3, .int x8)] [] (rec x8 m9)) (fun _ _ => gx_none) (fun rec_61 hr_61 x8 m9 => ?_) mm_fu x6 m5
    unfold fX7_nextRow_L61
    refine gx_iload_n X 61 62 1 dX7_nextRow_61 rfl rfl rfl ?_
    refine gx_bipush X 62 64 (6) dX7_nextRow_62 rfl cb_6 ?_
    refine gx_icmp_ge X 64 80 67 dX7_nextRow_64 rfl rfl ?_ ?_
    · refine gx_sub [] rfl ?_
      exact hk_80 m9
    refine gx_aload_n X 67 68 0 dX7_nextRow_67 rfl rfl rfl ?_
    refine gx_getR X 68 71 0 (by decide) rfl rfl fg_X7_74 dX7_nextRow_68 rfl ?_
    refine gx_iload_n X 71 72 1 dX7_nextRow_71 rfl rfl rfl ?_
    refine gx_iconst X 72 73 (0) dX7_nextRow_72 rfl ci_0 ?_
    refine gx_iastore X 73 74 20 (by decide) rfl dX7_nextRow_73 rfl (fun m10 => ?_)
    refine gx_iinc X 74 77 1 (1) (fun x11 => [(3, .int x11), (0, .ref (adr 0))]) dX7_nextRow_74 rfl rfl ci_1 (by decide) (fun _ => rfl) (fun x11 => ?_)
    refine gx_goto X 77 61 dX7_nextRow_77 rfl ?_
    refine gx_sub [1, 0] rfl ?_
    exact hr_61 x11 m10
  refine gx_sub [1, 0] rfl ?_
  refine mm_lk_ind (fun (rec : Int32 → Mm → Aa) => ∀ (x12 : Int32) (m13 : Mm), mm_G p l e rX7_nextRow s m args below meth c 4 D cA adr sM NM (mm_Qi D cA adr sM NM) m13 7 [(0, .ref (adr 0)), (1, .int x12)] [] (rec x12 m13)) (fun _ _ => gx_none) (fun rec_7 hr_7 x12 m13 => ?_) mm_fu x1 μ
  unfold fX7_nextRow_L7
  refine gx_iload_n X 7 8 1 dX7_nextRow_7 rfl rfl rfl ?_
  refine gx_if_le X 8 88 11 dX7_nextRow_8 rfl rfl ?_ ?_
  · refine gx_sub [] rfl ?_
    exact hk_88 m13
  refine gx_iconst X 11 12 (0) dX7_nextRow_11 rfl ci_0 ?_
  refine gx_istore_n X 12 13 (fun x14 => [(2, .int x14), (0, .ref (adr 0)), (1, .int x12)]) dX7_nextRow_12 rfl rfl (by decide) (fun _ => rfl) (fun x14 => ?_)
  refine gx_iconst X 13 14 (0) dX7_nextRow_13 rfl ci_0 ?_
  refine gx_istore_n X 14 15 (fun x15 => [(3, .int x15), (2, .int x14), (0, .ref (adr 0)), (1, .int x12)]) dX7_nextRow_14 rfl rfl (by decide) (fun _ => rfl) (fun x15 => ?_)
  refine gx_jn (fun (k : Int32 → Mm → Aa) => ∀ (x16 : Int32) (m17 : Mm), mm_G p l e rX7_nextRow s m args below meth c 4 D cA adr sM NM (mm_Qi D cA adr sM NM) m17 37 [(0, .ref (adr 0)), (1, .int x12), (2, .int x16)] [] (k x16 m17)) ?_ (fun k_37 hk_37 => ?_)
  · intro x16 m17
    refine gx_aload_n X 37 38 0 dX7_nextRow_37 rfl rfl rfl ?_
    refine gx_getR X 38 41 0 (by decide) rfl rfl fg_X7_74 dX7_nextRow_38 rfl ?_
    refine gx_iload_n X 41 42 1 dX7_nextRow_41 rfl rfl rfl ?_
    refine gx_iaload X 42 43 20 (by decide) rfl dX7_nextRow_42 rfl ?_
    refine gx_iload_n X 43 44 2 dX7_nextRow_43 rfl rfl rfl ?_
    refine gx_icmp_gt X 44 82 47 dX7_nextRow_44 rfl rfl ?_ ?_
    · refine gx_iinc X 82 85 1 (-1) (fun x18 => [(1, .int x18), (0, .ref (adr 0)), (2, .int x16)]) dX7_nextRow_82 rfl rfl ci_m1 (by decide) (fun _ => rfl) (fun x18 => ?_)
      refine gx_goto X 85 7 dX7_nextRow_85 rfl ?_
      refine gx_sub [1, 0] rfl ?_
      exact hr_7 x18 m17
    refine gx_sub [0, 1] rfl ?_
    exact hk_47 x12 m17
  refine gx_sub [2, 3, 1, 0] rfl ?_
  refine mm_lk_ind (fun (rec : Int32 → Int32 → Mm → Aa) => ∀ (x19 : Int32) (x20 : Int32) (m21 : Mm), mm_G p l e rX7_nextRow s m args below meth c 4 D cA adr sM NM (mm_Qi D cA adr sM NM) m21 15 [(0, .ref (adr 0)), (1, .int x12), (2, .int x19), (3, .int x20)] [] (rec x19 x20 m21)) (fun _ _ _ => gx_none) (fun rec_15 hr_15 x19 x20 m21 => ?_) mm_fu x14 x15 m13
  unfold fX7_nextRow_L15
  refine gx_iload_n X 15 16 3 dX7_nextRow_15 rfl rfl rfl ?_
  refine gx_iload_n X 16 17 1 dX7_nextRow_16 rfl rfl rfl ?_
  refine gx_icmp_ge X 17 37 20 dX7_nextRow_17 rfl rfl ?_ ?_
  · refine gx_sub [0, 1, 2] rfl ?_
    exact hk_37 x19 m21
  refine gx_iload_n X 20 21 2 dX7_nextRow_20 rfl rfl rfl ?_
  refine gx_aload_n X 21 22 0 dX7_nextRow_21 rfl rfl rfl ?_
  refine gx_getR X 22 25 0 (by decide) rfl rfl fg_X7_74 dX7_nextRow_22 rfl ?_
  refine gx_iload_n X 25 26 3 dX7_nextRow_25 rfl rfl rfl ?_
  refine gx_iaload X 26 27 20 (by decide) rfl dX7_nextRow_26 rfl ?_
  refine gx_calliS X 27 30 (rest := []) (As := [.int x19, .int (m21 20 x20.toNatClampNeg)]) (tX7_most hJ x19 (m21 20 x20.toNatClampNeg) m21) wc_X7_most wl_X7_132 wt_X7_most wn_X7 hd_X7_most ⟨Nat.le_of_ble_eq_true rfl, Nat.le_of_ble_eq_true rfl⟩ ⟨rfl, rfl⟩ rfl rfl (Nat.le_of_ble_eq_true rfl) dX7_nextRow_27 rfl (fun x22 m23 => ?_)
  refine gx_istore_n X 30 31 (fun x24 => [(2, .int x24), (0, .ref (adr 0)), (1, .int x12), (3, .int x20)]) dX7_nextRow_30 rfl rfl (by decide) (fun _ => rfl) (fun x24 => ?_)
  refine gx_iinc X 31 34 3 (1) (fun x25 => [(3, .int x25), (2, .int x24), (0, .ref (adr 0)), (1, .int x12)]) dX7_nextRow_31 rfl rfl ci_1 (by decide) (fun _ => rfl) (fun x25 => ?_)
  refine gx_goto X 34 15 dX7_nextRow_34 rfl ?_
  refine gx_sub [2, 3, 1, 0] rfl ?_
  exact hr_15 x24 x25 m23
def fX7_soonest_L56 (k_76 : Mm → Aa) (rec_56 : Int32 → Mm → Aa) (x13 : Int32) (m14 : Mm) : Aa := if x13 = 0 then (k_76 m14) else (mm_cl (fX7_goCompanies m14) (fun (x15 : Int32) (m16 : Mm) => mm_cl (fX7_judge m16) (fun (x17 : Int32) (m18 : Mm) => mm_cl (fX7_nextRow m18) (fun (x19 : Int32) (m20 : Mm) => mm_lt x19 (fun (x21 : Int32) => rec_56 x21 m20)))))
def fX7_soonest_L30 (k_49 : Mm → Aa) (rec_30 : Int32 → Mm → Aa) (x22 : Int32) (m23 : Mm) : Aa := if 6 ≤ x22 then (k_49 m23) else (mm_ck x22 6 (mm_lt (mm_wr m23 20 x22.toNatClampNeg 0) (fun (m24 : Mm) => mm_lt (x22 + 1) (fun (x25 : Int32) => rec_30 x25 m24))))
def fX7_soonest (a1 : Int32) (a2 : Int32) (μ : Mm) : Aa := mm_cl (fX7_takeSome a1 μ) (fun (x1 : Int32) (m2 : Mm) => mm_lt (fun (m3 : Mm) => some ((-1), m3)) (fun (k_26 : Mm → Aa) => if x1 = 0 then (k_26 m2) else (mm_cl (fX7_in a2.toInt64 ((-2)) (((m2 0 29) - 1).toInt64) m2) (fun (x4 : Int32) (m5 : Mm) => if x4 = 0 then (k_26 m5) else (mm_lt 0 (fun (x6 : Int32) => mm_lt (fun (m7 : Mm) => mm_lt (mm_wr m7 0 33 ((-1))) (fun (m8 : Mm) => mm_lt 1 (fun (x9 : Int32) => mm_lt (fun (m10 : Mm) => mm_lt (fun (x11 : Int32) (m12 : Mm) => some (x11, m12)) (fun (k_107 : Int32 → Mm → Aa) => if a2 = ((-1)) then (k_107 (m10 0 33) m10) else (if a2 = ((-2)) then (k_107 (m10 0 34) m10) else (mm_ck a2 6 (k_107 (m10 21 a2.toNatClampNeg) m10))))) (fun (k_76 : Mm → Aa) => mm_lk (fun (_ : Int32) (_ : Mm) => (none : Aa)) (fX7_soonest_L56 k_76) mm_fu x9 m8)))) (fun (k_49 : Mm → Aa) => mm_lk (fun (_ : Int32) (_ : Mm) => (none : Aa)) (fX7_soonest_L30 k_49) mm_fu x6 m5)))))))
abbrev rX7_soonest : Room := { frames := 4, cells := 0, slots := 0, locals := 94 }
set_option maxRecDepth 100000 in
set_option maxHeartbeats 8000000 in
theorem tX7_soonest {l : Launch} {D : va_G} {cA : Nat → ClassId} {adr : Nat → Nat} (hJ : mm_J adr NM) (a1 : Int32) (a2 : Int32) (μ : Mm) : mm_Mi l D cA adr sM NM mm_SM yX7_soonest cX7_soonest 4 (some .int) rX7_soonest [.ref (adr 0), .int a1, .int a2] μ (fX7_soonest a1 a2 μ) := by
  refine mm_entryi hJ mm_okM (by decide) (Nat.le_of_ble_eq_true rfl) ⟨rfl, rfl⟩ (fun p e s m below meth c X hr => ?_)
  generalize ([.ref (adr 0), .int a1, .int a2] : List Value).toArray = args at X ⊢
  refine gx_lv (lv' := [(0, .ref (adr 0)), (1, .int a1), (2, .int a2)]) rfl ?_
  unfold fX7_soonest
  refine gx_aload_n X 0 1 0 dX7_soonest_0 rfl rfl rfl ?_
  refine gx_iload_n X 1 2 1 dX7_soonest_1 rfl rfl rfl ?_
  refine gx_calliV X 2 5 0 (rest := []) (As := [.int a1]) (tX7_takeSome hJ a1 μ) (by decide) rfl rfl wc_X7_takeSome wl_X7_280 wi_X7_takeSome ws_X7_takeSome wn_X7 rfl hd_X7_takeSome ⟨Nat.le_of_ble_eq_true rfl, Nat.le_of_ble_eq_true rfl⟩ ⟨rfl, rfl⟩ rfl rfl (Nat.le_of_ble_eq_true rfl) dX7_soonest_2 rfl (fun x1 m2 => ?_)
  refine gx_jn (fun (k : Mm → Aa) => ∀ (m3 : Mm), mm_G p l e rX7_soonest s m args below meth c 4 D cA adr sM NM (mm_Qi D cA adr sM NM) m3 26 [] [] (k m3)) ?_ (fun k_26 hk_26 => ?_)
  · intro m3
    refine gx_iconst X 26 27 (-1) dX7_soonest_26 rfl ci_m1 ?_
    exact gx_iret X 27 hr dX7_soonest_27
  refine gx_if_eq X 5 26 8 dX7_soonest_5 rfl rfl ?_ ?_
  · refine gx_sub [] rfl ?_
    exact hk_26 m2
  refine gx_iload_n X 8 9 2 dX7_soonest_8 rfl rfl rfl ?_
  refine gx_i2l X 9 10 dX7_soonest_9 rfl ?_
  refine gx_ldc2_w X 10 13 wk_X7_283 dX7_soonest_10 rfl ?_
  refine gx_aload_n X 13 14 0 dX7_soonest_13 rfl rfl rfl ?_
  refine gx_getI X 14 17 0 (by decide) rfl rfl fg_X7_259 dX7_soonest_14 rfl ?_
  refine gx_iconst X 17 18 (1) dX7_soonest_17 rfl ci_1 ?_
  refine gx_isub X 18 19 dX7_soonest_18 rfl ?_
  refine gx_i2l X 19 20 dX7_soonest_19 rfl ?_
  refine gx_calliS X 20 23 (rest := []) (As := [.long a2.toInt64, .long ((-2)), .long (((m2 0 29) - 1).toInt64)]) (tX7_in hJ a2.toInt64 ((-2)) (((m2 0 29) - 1).toInt64) m2) wc_X7_in wl_X7_101 wt_X7_in wn_X7 hd_X7_in ⟨Nat.le_of_ble_eq_true rfl, Nat.le_of_ble_eq_true rfl⟩ ⟨rfl, rfl⟩ rfl rfl (Nat.le_of_ble_eq_true rfl) dX7_soonest_20 rfl (fun x4 m5 => ?_)
  refine gx_if_ne X 23 28 26 dX7_soonest_23 rfl rfl ?_ ?_
  · refine gx_iconst X 28 29 (0) dX7_soonest_28 rfl ci_0 ?_
    refine gx_istore_n X 29 30 (fun x6 => [(3, .int x6), (0, .ref (adr 0)), (1, .int a1), (2, .int a2)]) dX7_soonest_29 rfl rfl (by decide) (fun _ => rfl) (fun x6 => ?_)
    refine gx_jn (fun (k : Mm → Aa) => ∀ (m7 : Mm), mm_G p l e rX7_soonest s m args below meth c 4 D cA adr sM NM (mm_Qi D cA adr sM NM) m7 49 [(0, .ref (adr 0)), (2, .int a2)] [] (k m7)) ?_ (fun k_49 hk_49 => ?_)
    · intro m7
      refine gx_aload_n X 49 50 0 dX7_soonest_49 rfl rfl rfl ?_
      refine gx_iconst X 50 51 (-1) dX7_soonest_50 rfl ci_m1 ?_
      refine gx_putI X 51 54 0 (by decide) rfl rfl fp_X7_265 dX7_soonest_51 rfl (fun m8 => ?_)
      refine gx_iconst X 54 55 (1) dX7_soonest_54 rfl ci_1 ?_
      refine gx_istore_n X 55 56 (fun x9 => [(3, .int x9), (0, .ref (adr 0)), (2, .int a2)]) dX7_soonest_55 rfl rfl (by decide) (fun _ => rfl) (fun x9 => ?_)
      refine gx_jn (fun (k : Mm → Aa) => ∀ (m10 : Mm), mm_G p l e rX7_soonest s m args below meth c 4 D cA adr sM NM (mm_Qi D cA adr sM NM) m10 76 [(0, .ref (adr 0)), (2, .int a2)] [] (k m10)) ?_ (fun k_76 hk_76 => ?_)
      · intro m10
        refine gx_iload_n X 76 77 1 dX7_soonest_76 rfl rfl rfl ?_
        refine gx_iconst X 77 78 (-1) dX7_soonest_77 rfl ci_m1 ?_
        refine gx_jn (fun (k : Int32 → Mm → Aa) => ∀ (x11 : Int32) (m12 : Mm), mm_G p l e rX7_soonest s m args below meth c 4 D cA adr sM NM (mm_Qi D cA adr sM NM) m12 107 [] [.int x11] (k x11 m12)) ?_ (fun k_107 hk_107 => ?_)
        · intro x11 m12
          exact gx_iret X 107 hr dX7_soonest_107
        refine gx_icmp_ne X 78 88 81 dX7_soonest_78 rfl rfl ?_ ?_
        · refine gx_iload_n X 88 89 1 dX7_soonest_88 rfl rfl rfl ?_
          refine gx_bipush X 89 91 (-2) dX7_soonest_89 rfl cb_m2 ?_
          refine gx_icmp_ne X 91 101 94 dX7_soonest_91 rfl rfl ?_ ?_
          · refine gx_aload_n X 101 102 0 dX7_soonest_101 rfl rfl rfl ?_
            refine gx_getR X 102 105 0 (by decide) rfl rfl fg_X7_77 dX7_soonest_102 rfl ?_
            refine gx_iload_n X 105 106 1 dX7_soonest_105 rfl rfl rfl ?_
            refine gx_iaload X 106 107 21 (by decide) rfl dX7_soonest_106 rfl ?_
            refine gx_sub [] rfl ?_
            exact hk_107 (m10 21 a2.toNatClampNeg) m10
          refine gx_aload_n X 94 95 0 dX7_soonest_94 rfl rfl rfl ?_
          refine gx_getI X 95 98 0 (by decide) rfl rfl fg_X7_268 dX7_soonest_95 rfl ?_
          refine gx_goto X 98 107 dX7_soonest_98 rfl ?_
          refine gx_sub [] rfl ?_
          exact hk_107 (m10 0 34) m10
        refine gx_aload_n X 81 82 0 dX7_soonest_81 rfl rfl rfl ?_
        refine gx_getI X 82 85 0 (by decide) rfl rfl fg_X7_265 dX7_soonest_82 rfl ?_
        refine gx_goto X 85 107 dX7_soonest_85 rfl ?_
        refine gx_sub [] rfl ?_
        exact hk_107 (m10 0 33) m10
      refine gx_sub [1, 2, 0] rfl ?_
      refine mm_lk_ind (fun (rec : Int32 → Mm → Aa) => ∀ (x13 : Int32) (m14 : Mm), mm_G p l e rX7_soonest s m args below meth c 4 D cA adr sM NM (mm_Qi D cA adr sM NM) m14 56 [(0, .ref (adr 0)), (2, .int a2), (3, .int x13)] [] (rec x13 m14)) (fun _ _ => gx_none) (fun rec_56 hr_56 x13 m14 => ?_) mm_fu x9 m8
      unfold fX7_soonest_L56
      refine gx_iload_n X 56 57 2 dX7_soonest_56 rfl rfl rfl ?_
      refine gx_if_eq X 57 76 60 dX7_soonest_57 rfl rfl ?_ ?_
      · refine gx_sub [0, 1] rfl ?_
        exact hk_76 m14
      refine gx_aload_n X 60 61 0 dX7_soonest_60 rfl rfl rfl ?_
      refine gx_callvV X 61 64 0 (rest := []) (As := []) (tX7_goCompanies hJ m14) (by decide) rfl rfl wc_X7_goCompanies wl_X7_285 wi_X7_goCompanies ws_X7_goCompanies wn_X7 rfl hd_X7_goCompanies ⟨Nat.le_of_ble_eq_true rfl, Nat.le_of_ble_eq_true rfl⟩ ⟨rfl, rfl⟩ rfl rfl (Nat.le_of_ble_eq_true rfl) dX7_soonest_61 rfl (fun x15 m16 => ?_)
      refine gx_aload_n X 64 65 0 dX7_soonest_64 rfl rfl rfl ?_
      refine gx_callvV X 65 68 0 (rest := []) (As := []) (tX7_judge hJ m16) (by decide) rfl rfl wc_X7_judge wl_X7_288 wi_X7_judge ws_X7_judge wn_X7 rfl hd_X7_judge ⟨Nat.le_of_ble_eq_true rfl, Nat.le_of_ble_eq_true rfl⟩ ⟨rfl, rfl⟩ rfl rfl (Nat.le_of_ble_eq_true rfl) dX7_soonest_65 rfl (fun x17 m18 => ?_)
      refine gx_aload_n X 68 69 0 dX7_soonest_68 rfl rfl rfl ?_
      refine gx_calliV X 69 72 0 (rest := []) (As := []) (tX7_nextRow hJ m18) (by decide) rfl rfl wc_X7_nextRow wl_X7_291 wi_X7_nextRow ws_X7_nextRow wn_X7 rfl hd_X7_nextRow ⟨Nat.le_of_ble_eq_true rfl, Nat.le_of_ble_eq_true rfl⟩ ⟨rfl, rfl⟩ rfl rfl (Nat.le_of_ble_eq_true rfl) dX7_soonest_69 rfl (fun x19 m20 => ?_)
      refine gx_istore_n X 72 73 (fun x21 => [(3, .int x21), (0, .ref (adr 0)), (2, .int a2)]) dX7_soonest_72 rfl rfl (by decide) (fun _ => rfl) (fun x21 => ?_)
      refine gx_goto X 73 56 dX7_soonest_73 rfl ?_
      refine gx_sub [1, 2, 0] rfl ?_
      exact hr_56 x21 m20
    refine gx_sub [1, 3, 0] rfl ?_
    refine mm_lk_ind (fun (rec : Int32 → Mm → Aa) => ∀ (x22 : Int32) (m23 : Mm), mm_G p l e rX7_soonest s m args below meth c 4 D cA adr sM NM (mm_Qi D cA adr sM NM) m23 30 [(0, .ref (adr 0)), (2, .int a2), (3, .int x22)] [] (rec x22 m23)) (fun _ _ => gx_none) (fun rec_30 hr_30 x22 m23 => ?_) mm_fu x6 m5
    unfold fX7_soonest_L30
    refine gx_iload_n X 30 31 2 dX7_soonest_30 rfl rfl rfl ?_
    refine gx_bipush X 31 33 (6) dX7_soonest_31 rfl cb_6 ?_
    refine gx_icmp_ge X 33 49 36 dX7_soonest_33 rfl rfl ?_ ?_
    · refine gx_sub [0, 1] rfl ?_
      exact hk_49 m23
    refine gx_aload_n X 36 37 0 dX7_soonest_36 rfl rfl rfl ?_
    refine gx_getR X 37 40 0 (by decide) rfl rfl fg_X7_74 dX7_soonest_37 rfl ?_
    refine gx_iload_n X 40 41 2 dX7_soonest_40 rfl rfl rfl ?_
    refine gx_iconst X 41 42 (0) dX7_soonest_41 rfl ci_0 ?_
    refine gx_iastore X 42 43 20 (by decide) rfl dX7_soonest_42 rfl (fun m24 => ?_)
    refine gx_iinc X 43 46 2 (1) (fun x25 => [(3, .int x25), (0, .ref (adr 0)), (2, .int a2)]) dX7_soonest_43 rfl rfl ci_1 (by decide) (fun _ => rfl) (fun x25 => ?_)
    refine gx_goto X 46 30 dX7_soonest_46 rfl ?_
    refine gx_sub [1, 2, 0] rfl ?_
    exact hr_30 x25 m24
  refine gx_sub [] rfl ?_
  exact hk_26 m5
def fX7_goOrder_L24 (a1 : Int32) (x7 : Int32) (k_132 : Int32 → Int32 → Int32 → Mm → Aa) (rec_24 : Int32 → Int32 → Int32 → Int32 → Mm → Aa) (x22 : Int32) (x23 : Int32) (x24 : Int32) (x25 : Int32) (m26 : Mm) : Aa := if (m26 0 29) ≤ x25 then (k_132 x22 x23 x24 m26) else (mm_ck x25 6 (mm_lt (m26 20 x25.toNatClampNeg) (fun (x27 : Int32) => mm_ck x27 6 (mm_lt (fun (x28 : Int32) (x29 : Int32) (x30 : Int32) (m31 : Mm) => mm_lt (x25 + 1) (fun (x32 : Int32) => rec_24 x28 x29 x30 x32 m31)) (fun (k_126 : Int32 → Int32 → Int32 → Mm → Aa) => if 0 ≤ (m26 22 x27.toNatClampNeg) then (k_126 x22 x23 x24 m26) else (if x7 ≤ (x25 * a1) then (k_126 x22 x23 x24 m26) else (mm_cl (fX7_goSome x27 m26) (fun (x33 : Int32) (m34 : Mm) => mm_ck x27 10 (if (m34 8 x27.toNatClampNeg) = 1 then (mm_ck x27 6 (mm_lt (mm_wr m34 22 x27.toNatClampNeg x7) (fun (m35 : Mm) => mm_lt (x22 + (-1)) (fun (x36 : Int32) => mm_cl (fX7_isSpiting x27 m35) (fun (x37 : Int32) (m38 : Mm) => mm_lt (fun (x39 : Int32) (m40 : Mm) => mm_lt (x23 + x39) (fun (x41 : Int32) => mm_cl (fX7_isSpiting x27 m40) (fun (x42 : Int32) (m43 : Mm) => mm_lt (fun (x44 : Int32) (m45 : Mm) => mm_lt (x24 + x44) (fun (x46 : Int32) => k_126 x36 x41 x46 m45)) (fun (k_123 : Int32 → Mm → Aa) => if x42 = 0 then (k_123 0 m43) else (k_123 1 m43))))) (fun (k_104 : Int32 → Mm → Aa) => if x37 = 0 then (k_104 1 m38) else (k_104 0 m38))))))) else (k_126 x22 x23 x24 m34))))))))))
def fX7_goOrder_L11 (a1 : Int32) (k_170 : Mm → Aa) (rec_11 : Int32 → Int32 → Mm → Aa) (x6 : Int32) (x7 : Int32) (m8 : Mm) : Aa := if x6 ≤ 0 then (k_170 m8) else (mm_lt 0 (fun (x9 : Int32) => mm_lt 0 (fun (x10 : Int32) => mm_lt 0 (fun (x11 : Int32) => mm_lt (fun (x12 : Int32) (x13 : Int32) (x14 : Int32) (m15 : Mm) => mm_ck 0 6 (mm_cl (fX7_countsAt 0 x7 x13 x14 m15) (fun (x16 : Int32) (m17 : Mm) => mm_cl (fX7_least 400 ((m15 0 23) + ((m15 2 (0 : Int32).toNatClampNeg) * x16)) m17) (fun (x18 : Int32) (m19 : Mm) => mm_lt (mm_wr m19 0 23 x18) (fun (m20 : Mm) => mm_lt (x7 + 1) (fun (x21 : Int32) => rec_11 x12 x21 m20)))))) (fun (k_132 : Int32 → Int32 → Int32 → Mm → Aa) => mm_lk (fun (_ : Int32) (_ : Int32) (_ : Int32) (_ : Int32) (_ : Mm) => (none : Aa)) (fX7_goOrder_L24 a1 x7 k_132) mm_fu x6 x9 x10 x11 m8)))))
def fX7_goOrder (a1 : Int32) (μ : Mm) : Aa := mm_cl (fX7_beginSome μ) (fun (x1 : Int32) (m2 : Mm) => mm_lt (m2 0 29) (fun (x3 : Int32) => mm_lt 0 (fun (x4 : Int32) => mm_lt (fun (m5 : Mm) => some (0, m5)) (fun (k_170 : Mm → Aa) => mm_lk (fun (_ : Int32) (_ : Int32) (_ : Mm) => (none : Aa)) (fX7_goOrder_L11 a1 k_170) mm_fu x3 x4 m2))))
abbrev rX7_goOrder : Room := { frames := 3, cells := 0, slots := 0, locals := 65 }
set_option maxRecDepth 100000 in
set_option maxHeartbeats 8000000 in
theorem tX7_goOrder {l : Launch} {D : va_G} {cA : Nat → ClassId} {adr : Nat → Nat} (hJ : mm_J adr NM) (a1 : Int32) (μ : Mm) : mm_Mv l D cA adr sM NM mm_SM yX7_goOrder cX7_goOrder 8 none rX7_goOrder [.ref (adr 0), .int a1] μ (fX7_goOrder a1 μ) := by
  refine mm_entryv hJ mm_okM (by decide) (Nat.le_of_ble_eq_true rfl) ⟨rfl, rfl⟩ (fun p e s m below meth c X hr => ?_)
  generalize ([.ref (adr 0), .int a1] : List Value).toArray = args at X ⊢
  refine gx_lv (lv' := [(0, .ref (adr 0)), (1, .int a1)]) rfl ?_
  unfold fX7_goOrder
  refine gx_aload_n X 0 1 0 dX7_goOrder_0 rfl rfl rfl ?_
  refine gx_callvV X 1 4 0 (rest := []) (As := []) (tX7_beginSome hJ μ) (by decide) rfl rfl wc_X7_beginSome wl_X7_271 wi_X7_beginSome ws_X7_beginSome wn_X7 rfl hd_X7_beginSome ⟨Nat.le_of_ble_eq_true rfl, Nat.le_of_ble_eq_true rfl⟩ ⟨rfl, rfl⟩ rfl rfl (Nat.le_of_ble_eq_true rfl) dX7_goOrder_1 rfl (fun x1 m2 => ?_)
  refine gx_aload_n X 4 5 0 dX7_goOrder_4 rfl rfl rfl ?_
  refine gx_getI X 5 8 0 (by decide) rfl rfl fg_X7_259 dX7_goOrder_5 rfl ?_
  refine gx_istore_n X 8 9 (fun x3 => [(2, .int x3), (0, .ref (adr 0)), (1, .int a1)]) dX7_goOrder_8 rfl rfl (by decide) (fun _ => rfl) (fun x3 => ?_)
  refine gx_iconst X 9 10 (0) dX7_goOrder_9 rfl ci_0 ?_
  refine gx_istore_n X 10 11 (fun x4 => [(3, .int x4), (2, .int x3), (0, .ref (adr 0)), (1, .int a1)]) dX7_goOrder_10 rfl rfl (by decide) (fun _ => rfl) (fun x4 => ?_)
  refine gx_jn (fun (k : Mm → Aa) => ∀ (m5 : Mm), mm_G p l e rX7_goOrder s m args below meth c 8 D cA adr sM NM (mm_Qv D cA adr sM NM) m5 170 [] [] (k m5)) ?_ (fun k_170 hk_170 => ?_)
  · intro m5
    exact gx_vret X 170 hr dX7_goOrder_170
  refine gx_sub [2, 3, 1, 0] rfl ?_
  refine mm_lk_ind (fun (rec : Int32 → Int32 → Mm → Aa) => ∀ (x6 : Int32) (x7 : Int32) (m8 : Mm), mm_G p l e rX7_goOrder s m args below meth c 8 D cA adr sM NM (mm_Qv D cA adr sM NM) m8 11 [(0, .ref (adr 0)), (1, .int a1), (2, .int x6), (3, .int x7)] [] (rec x6 x7 m8)) (fun _ _ _ => gx_none) (fun rec_11 hr_11 x6 x7 m8 => ?_) mm_fu x3 x4 m2
  unfold fX7_goOrder_L11
  refine gx_iload_n X 11 12 2 dX7_goOrder_11 rfl rfl rfl ?_
  refine gx_if_le X 12 170 15 dX7_goOrder_12 rfl rfl ?_ ?_
  · refine gx_sub [] rfl ?_
    exact hk_170 m8
  refine gx_iconst X 15 16 (0) dX7_goOrder_15 rfl ci_0 ?_
  refine gx_istore X 16 18 (fun x9 => [(4, .int x9), (0, .ref (adr 0)), (1, .int a1), (2, .int x6), (3, .int x7)]) dX7_goOrder_16 rfl (by decide) (fun _ => rfl) (fun x9 => ?_)
  refine gx_iconst X 18 19 (0) dX7_goOrder_18 rfl ci_0 ?_
  refine gx_istore X 19 21 (fun x10 => [(5, .int x10), (4, .int x9), (0, .ref (adr 0)), (1, .int a1), (2, .int x6), (3, .int x7)]) dX7_goOrder_19 rfl (by decide) (fun _ => rfl) (fun x10 => ?_)
  refine gx_iconst X 21 22 (0) dX7_goOrder_21 rfl ci_0 ?_
  refine gx_istore X 22 24 (fun x11 => [(6, .int x11), (5, .int x10), (4, .int x9), (0, .ref (adr 0)), (1, .int a1), (2, .int x6), (3, .int x7)]) dX7_goOrder_22 rfl (by decide) (fun _ => rfl) (fun x11 => ?_)
  refine gx_jn (fun (k : Int32 → Int32 → Int32 → Mm → Aa) => ∀ (x12 : Int32) (x13 : Int32) (x14 : Int32) (m15 : Mm), mm_G p l e rX7_goOrder s m args below meth c 8 D cA adr sM NM (mm_Qv D cA adr sM NM) m15 132 [(0, .ref (adr 0)), (1, .int a1), (2, .int x12), (3, .int x7), (4, .int x13), (5, .int x14)] [] (k x12 x13 x14 m15)) ?_ (fun k_132 hk_132 => ?_)
  · intro x12 x13 x14 m15
    refine gx_aload_n X 132 133 0 dX7_goOrder_132 rfl rfl rfl ?_
    refine gx_sipush X 133 136 (400) dX7_goOrder_133 rfl cs_400 ?_
    refine gx_aload_n X 136 137 0 dX7_goOrder_136 rfl rfl rfl ?_
    refine gx_getI X 137 140 0 (by decide) rfl rfl fg_X7_191 dX7_goOrder_137 rfl ?_
    refine gx_aload_n X 140 141 0 dX7_goOrder_140 rfl rfl rfl ?_
    refine gx_getR X 141 144 0 (by decide) rfl rfl fg_X7_13 dX7_goOrder_141 rfl ?_
    refine gx_iconst X 144 145 (0) dX7_goOrder_144 rfl ci_0 ?_
    refine gx_iaload X 145 146 2 (by decide) rfl dX7_goOrder_145 rfl ?_
    refine gx_aload_n X 146 147 0 dX7_goOrder_146 rfl rfl rfl ?_
    refine gx_iconst X 147 148 (0) dX7_goOrder_147 rfl ci_0 ?_
    refine gx_iload_n X 148 149 3 dX7_goOrder_148 rfl rfl rfl ?_
    refine gx_iload X 149 151 4 dX7_goOrder_149 rfl rfl ?_
    refine gx_iload X 151 153 5 dX7_goOrder_151 rfl rfl ?_
    refine gx_calliV X 153 156 0 (rest := [.int (m15 2 (0 : Int32).toNatClampNeg), .int (m15 0 23), .int 400, .ref (adr 0)]) (As := [.int 0, .int x7, .int x13, .int x14]) (tX7_countsAt hJ 0 x7 x13 x14 m15) (by decide) rfl rfl wc_X7_countsAt wl_X7_209 wi_X7_countsAt ws_X7_countsAt wn_X7 rfl hd_X7_countsAt ⟨Nat.le_of_ble_eq_true rfl, Nat.le_of_ble_eq_true rfl⟩ ⟨rfl, rfl⟩ rfl rfl (Nat.le_of_ble_eq_true rfl) dX7_goOrder_153 rfl (fun x16 m17 => ?_)
    refine gx_imul X 156 157 dX7_goOrder_156 rfl ?_
    refine gx_iadd X 157 158 dX7_goOrder_157 rfl ?_
    refine gx_calliS X 158 161 (rest := [.ref (adr 0)]) (As := [.int 400, .int ((m15 0 23) + ((m15 2 (0 : Int32).toNatClampNeg) * x16))]) (tX7_least hJ 400 ((m15 0 23) + ((m15 2 (0 : Int32).toNatClampNeg) * x16)) m17) wc_X7_least wl_X7_203 wt_X7_least wn_X7 hd_X7_least ⟨Nat.le_of_ble_eq_true rfl, Nat.le_of_ble_eq_true rfl⟩ ⟨rfl, rfl⟩ rfl rfl (Nat.le_of_ble_eq_true rfl) dX7_goOrder_158 rfl (fun x18 m19 => ?_)
    refine gx_putI X 161 164 0 (by decide) rfl rfl fp_X7_191 dX7_goOrder_161 rfl (fun m20 => ?_)
    refine gx_iinc X 164 167 3 (1) (fun x21 => [(3, .int x21), (0, .ref (adr 0)), (1, .int a1), (2, .int x12), (4, .int x13), (5, .int x14)]) dX7_goOrder_164 rfl rfl ci_1 (by decide) (fun _ => rfl) (fun x21 => ?_)
    refine gx_goto X 167 11 dX7_goOrder_167 rfl ?_
    refine gx_sub [1, 2, 3, 0] rfl ?_
    exact hr_11 x12 x21 m20
  refine gx_sub [3, 4, 5, 6, 2, 1, 0] rfl ?_
  refine mm_lk_ind (fun (rec : Int32 → Int32 → Int32 → Int32 → Mm → Aa) => ∀ (x22 : Int32) (x23 : Int32) (x24 : Int32) (x25 : Int32) (m26 : Mm), mm_G p l e rX7_goOrder s m args below meth c 8 D cA adr sM NM (mm_Qv D cA adr sM NM) m26 24 [(0, .ref (adr 0)), (1, .int a1), (2, .int x22), (3, .int x7), (4, .int x23), (5, .int x24), (6, .int x25)] [] (rec x22 x23 x24 x25 m26)) (fun _ _ _ _ _ => gx_none) (fun rec_24 hr_24 x22 x23 x24 x25 m26 => ?_) mm_fu x6 x9 x10 x11 m8
  unfold fX7_goOrder_L24
  refine gx_iload X 24 26 6 dX7_goOrder_24 rfl rfl ?_
  refine gx_aload_n X 26 27 0 dX7_goOrder_26 rfl rfl rfl ?_
  refine gx_getI X 27 30 0 (by decide) rfl rfl fg_X7_259 dX7_goOrder_27 rfl ?_
  refine gx_icmp_ge X 30 132 33 dX7_goOrder_30 rfl rfl ?_ ?_
  · refine gx_sub [0, 1, 2, 3, 4, 5] rfl ?_
    exact hk_132 x22 x23 x24 m26
  refine gx_aload_n X 33 34 0 dX7_goOrder_33 rfl rfl rfl ?_
  refine gx_getR X 34 37 0 (by decide) rfl rfl fg_X7_74 dX7_goOrder_34 rfl ?_
  refine gx_iload X 37 39 6 dX7_goOrder_37 rfl rfl ?_
  refine gx_iaload X 39 40 20 (by decide) rfl dX7_goOrder_39 rfl ?_
  refine gx_istore X 40 42 (fun x27 => [(7, .int x27), (0, .ref (adr 0)), (1, .int a1), (2, .int x22), (3, .int x7), (4, .int x23), (5, .int x24), (6, .int x25)]) dX7_goOrder_40 rfl (by decide) (fun _ => rfl) (fun x27 => ?_)
  refine gx_aload_n X 42 43 1 dX7_goOrder_42 rfl rfl rfl ?_
  refine gx_getR X 43 46 0 (by decide) rfl rfl fg_X7_80 dX7_goOrder_43 rfl ?_
  refine gx_iload X 46 48 0 dX7_goOrder_46 rfl rfl ?_
  refine gx_iaload X 48 49 22 (by decide) rfl dX7_goOrder_48 rfl ?_
  refine gx_jn (fun (k : Int32 → Int32 → Int32 → Mm → Aa) => ∀ (x28 : Int32) (x29 : Int32) (x30 : Int32) (m31 : Mm), mm_G p l e rX7_goOrder s m args below meth c 8 D cA adr sM NM (mm_Qv D cA adr sM NM) m31 126 [(0, .ref (adr 0)), (1, .int a1), (2, .int x28), (3, .int x7), (4, .int x29), (5, .int x30), (6, .int x25)] [] (k x28 x29 x30 m31)) ?_ (fun k_126 hk_126 => ?_)
  · intro x28 x29 x30 m31
    refine gx_iinc X 126 129 6 (1) (fun x32 => [(6, .int x32), (0, .ref (adr 0)), (1, .int a1), (2, .int x28), (3, .int x7), (4, .int x29), (5, .int x30)]) dX7_goOrder_126 rfl rfl ci_1 (by decide) (fun _ => rfl) (fun x32 => ?_)
    refine gx_goto X 129 24 dX7_goOrder_129 rfl ?_
    refine gx_sub [1, 2, 3, 4, 5, 6, 0] rfl ?_
    exact hr_24 x28 x29 x30 x32 m31
  refine gx_if_ge X 49 126 52 dX7_goOrder_49 rfl rfl ?_ ?_
  · refine gx_sub [1, 2, 3, 4, 5, 6, 7] rfl ?_
    exact hk_126 x22 x23 x24 m26
  refine gx_iload_n X 52 53 4 dX7_goOrder_52 rfl rfl rfl ?_
  refine gx_iload X 53 55 7 dX7_goOrder_53 rfl rfl ?_
  refine gx_iload_n X 55 56 2 dX7_goOrder_55 rfl rfl rfl ?_
  refine gx_imul X 56 57 dX7_goOrder_56 rfl ?_
  refine gx_icmp_le X 57 126 60 dX7_goOrder_57 rfl rfl ?_ ?_
  · refine gx_sub [1, 2, 3, 4, 5, 6, 7] rfl ?_
    exact hk_126 x22 x23 x24 m26
  refine gx_aload_n X 60 61 1 dX7_goOrder_60 rfl rfl rfl ?_
  refine gx_iload X 61 63 0 dX7_goOrder_61 rfl rfl ?_
  refine gx_callvV X 63 66 0 (rest := []) (As := [.int x27]) (tX7_goSome hJ x27 m26) (by decide) rfl rfl wc_X7_goSome wl_X7_274 wi_X7_goSome ws_X7_goSome wn_X7 rfl hd_X7_goSome ⟨Nat.le_of_ble_eq_true rfl, Nat.le_of_ble_eq_true rfl⟩ ⟨rfl, rfl⟩ rfl rfl (Nat.le_of_ble_eq_true rfl) dX7_goOrder_63 rfl (fun x33 m34 => ?_)
  refine gx_aload_n X 66 67 1 dX7_goOrder_66 rfl rfl rfl ?_
  refine gx_getR X 67 70 0 (by decide) rfl rfl fg_X7_35 dX7_goOrder_67 rfl ?_
  refine gx_iload X 70 72 0 dX7_goOrder_70 rfl rfl ?_
  refine gx_iaload X 72 73 8 (by decide) rfl dX7_goOrder_72 rfl ?_
  refine gx_iconst X 73 74 (1) dX7_goOrder_73 rfl ci_1 ?_
  refine gx_icmp_ne X 74 126 77 dX7_goOrder_74 rfl rfl ?_ ?_
  · refine gx_sub [1, 2, 3, 4, 5, 6, 7] rfl ?_
    exact hk_126 x22 x23 x24 m34
  refine gx_aload_n X 77 78 1 dX7_goOrder_77 rfl rfl rfl ?_
  refine gx_getR X 78 81 0 (by decide) rfl rfl fg_X7_80 dX7_goOrder_78 rfl ?_
  refine gx_iload X 81 83 0 dX7_goOrder_81 rfl rfl ?_
  refine gx_iload_n X 83 84 4 dX7_goOrder_83 rfl rfl rfl ?_
  refine gx_iastore X 84 85 22 (by decide) rfl dX7_goOrder_84 rfl (fun m35 => ?_)
  refine gx_iinc X 85 88 3 (-1) (fun x36 => [(2, .int x36), (7, .int x27), (0, .ref (adr 0)), (1, .int a1), (3, .int x7), (4, .int x23), (5, .int x24), (6, .int x25)]) dX7_goOrder_85 rfl rfl ci_m1 (by decide) (fun _ => rfl) (fun x36 => ?_)
  refine gx_iload X 88 90 5 dX7_goOrder_88 rfl rfl ?_
  refine gx_aload_n X 90 91 2 dX7_goOrder_90 rfl rfl rfl ?_
  refine gx_iload X 91 93 1 dX7_goOrder_91 rfl rfl ?_
  refine gx_calliV X 93 96 0 (rest := [.int x23]) (As := [.int x27]) (tX7_isSpiting hJ x27 m35) (by decide) rfl rfl wc_X7_isSpiting wl_X7_277 wi_X7_isSpiting ws_X7_isSpiting wn_X7 rfl hd_X7_isSpiting ⟨Nat.le_of_ble_eq_true rfl, Nat.le_of_ble_eq_true rfl⟩ ⟨rfl, rfl⟩ rfl rfl (Nat.le_of_ble_eq_true rfl) dX7_goOrder_93 rfl (fun x37 m38 => ?_)
  refine gx_jn (fun (k : Int32 → Mm → Aa) => ∀ (x39 : Int32) (m40 : Mm), mm_G p l e rX7_goOrder s m args below meth c 8 D cA adr sM NM (mm_Qv D cA adr sM NM) m40 104 [(0, .ref (adr 0)), (1, .int a1), (2, .int x36), (3, .int x7), (5, .int x24), (6, .int x25), (7, .int x27)] [.int x39, .int x23] (k x39 m40)) ?_ (fun k_104 hk_104 => ?_)
  · intro x39 m40
    refine gx_iadd X 104 105 dX7_goOrder_104 rfl ?_
    refine gx_istore X 105 107 (fun x41 => [(4, .int x41), (0, .ref (adr 0)), (1, .int a1), (2, .int x36), (3, .int x7), (5, .int x24), (6, .int x25), (7, .int x27)]) dX7_goOrder_105 rfl (by decide) (fun _ => rfl) (fun x41 => ?_)
    refine gx_iload X 107 109 5 dX7_goOrder_107 rfl rfl ?_
    refine gx_aload_n X 109 110 1 dX7_goOrder_109 rfl rfl rfl ?_
    refine gx_iload X 110 112 7 dX7_goOrder_110 rfl rfl ?_
    refine gx_calliV X 112 115 0 (rest := [.int x24]) (As := [.int x27]) (tX7_isSpiting hJ x27 m40) (by decide) rfl rfl wc_X7_isSpiting wl_X7_277 wi_X7_isSpiting ws_X7_isSpiting wn_X7 rfl hd_X7_isSpiting ⟨Nat.le_of_ble_eq_true rfl, Nat.le_of_ble_eq_true rfl⟩ ⟨rfl, rfl⟩ rfl rfl (Nat.le_of_ble_eq_true rfl) dX7_goOrder_112 rfl (fun x42 m43 => ?_)
    refine gx_jn (fun (k : Int32 → Mm → Aa) => ∀ (x44 : Int32) (m45 : Mm), mm_G p l e rX7_goOrder s m args below meth c 8 D cA adr sM NM (mm_Qv D cA adr sM NM) m45 123 [(0, .ref (adr 0)), (1, .int a1), (2, .int x36), (3, .int x7), (4, .int x41), (6, .int x25)] [.int x44, .int x24] (k x44 m45)) ?_ (fun k_123 hk_123 => ?_)
    · intro x44 m45
      refine gx_iadd X 123 124 dX7_goOrder_123 rfl ?_
      refine gx_istore X 124 126 (fun x46 => [(5, .int x46), (0, .ref (adr 0)), (1, .int a1), (2, .int x36), (3, .int x7), (4, .int x41), (6, .int x25)]) dX7_goOrder_124 rfl (by decide) (fun _ => rfl) (fun x46 => ?_)
      refine gx_sub [1, 2, 3, 4, 5, 0, 6] rfl ?_
      exact hk_126 x36 x41 x46 m45
    refine gx_if_eq X 115 122 118 dX7_goOrder_115 rfl rfl ?_ ?_
    · refine gx_iconst X 122 123 (0) dX7_goOrder_122 rfl ci_0 ?_
      refine gx_sub [1, 2, 3, 4, 0, 6] rfl ?_
      exact hk_123 0 m43
    refine gx_iconst X 118 119 (1) dX7_goOrder_118 rfl ci_1 ?_
    refine gx_goto X 119 123 dX7_goOrder_119 rfl ?_
    refine gx_sub [1, 2, 3, 4, 0, 6] rfl ?_
    exact hk_123 1 m43
  refine gx_if_eq X 96 103 99 dX7_goOrder_96 rfl rfl ?_ ?_
  · refine gx_iconst X 103 104 (1) dX7_goOrder_103 rfl ci_1 ?_
    refine gx_sub [2, 3, 0, 4, 6, 7, 1] rfl ?_
    exact hk_104 1 m38
  refine gx_iconst X 99 100 (0) dX7_goOrder_99 rfl ci_0 ?_
  refine gx_goto X 100 104 dX7_goOrder_100 rfl ?_
  refine gx_sub [2, 3, 0, 4, 6, 7, 1] rfl ?_
  exact hk_104 0 m38
def fX7_nextOrder_L107 (k_153 : Mm → Aa) (rec_107 : Int32 → Int32 → Mm → Aa) (x13 : Int32) (x14 : Int32) (m15 : Mm) : Aa := if x14 ≤ x13 then (k_153 m15) else (mm_ck x13 6 (mm_lt (m15 20 x13.toNatClampNeg) (fun (x16 : Int32) => mm_ck x14 6 (mm_ck x13 6 (mm_lt (mm_wr m15 20 x13.toNatClampNeg (m15 20 x14.toNatClampNeg)) (fun (m17 : Mm) => mm_ck x14 6 (mm_lt (mm_wr m17 20 x14.toNatClampNeg x16) (fun (m18 : Mm) => mm_lt (x13 + 1) (fun (x19 : Int32) => mm_lt (x14 + (-1)) (fun (x20 : Int32) => rec_107 x19 x20 m18))))))))))
def fX7_nextOrder_L47 (x2 : Int32) (k_68 : Int32 → Mm → Aa) (rec_47 : Int32 → Mm → Aa) (x21 : Int32) (m22 : Mm) : Aa := mm_ck x21 6 (mm_ck x2 6 (if (m22 20 x2.toNatClampNeg) ≤ (m22 20 x21.toNatClampNeg) then (k_68 x21 m22) else (mm_lt (x21 + (-1)) (fun (x23 : Int32) => rec_47 x23 m22))))
def fX7_nextOrder_L7 (k_34 : Int32 → Mm → Aa) (rec_7 : Int32 → Mm → Aa) (x24 : Int32) (m25 : Mm) : Aa := if x24 < 0 then (k_34 x24 m25) else (mm_ck x24 6 (mm_ck (x24 + 1) 6 (if (m25 20 x24.toNatClampNeg) ≤ (m25 20 (x24 + 1).toNatClampNeg) then (k_34 x24 m25) else (mm_lt (x24 + (-1)) (fun (x26 : Int32) => rec_7 x26 m25)))))
def fX7_nextOrder (μ : Mm) : Aa := mm_lt ((μ 0 29) - 2) (fun (x1 : Int32) => mm_lt (fun (x2 : Int32) (m3 : Mm) => if 0 ≤ x2 then (mm_lt ((m3 0 29) - 1) (fun (x4 : Int32) => mm_lt (fun (x5 : Int32) (m6 : Mm) => mm_ck x2 6 (mm_lt (m6 20 x2.toNatClampNeg) (fun (x7 : Int32) => mm_ck x5 6 (mm_ck x2 6 (mm_lt (mm_wr m6 20 x2.toNatClampNeg (m6 20 x5.toNatClampNeg)) (fun (m8 : Mm) => mm_ck x5 6 (mm_lt (mm_wr m8 20 x5.toNatClampNeg x7) (fun (m9 : Mm) => mm_lt (x2 + 1) (fun (x10 : Int32) => mm_lt ((m9 0 29) - 1) (fun (x11 : Int32) => mm_lt (fun (m12 : Mm) => mm_bo 1 (some (1, m12))) (fun (k_153 : Mm → Aa) => mm_lk (fun (_ : Int32) (_ : Int32) (_ : Mm) => (none : Aa)) (fX7_nextOrder_L107 k_153) mm_fu x10 x11 m9))))))))))) (fun (k_68 : Int32 → Mm → Aa) => mm_lk (fun (_ : Int32) (_ : Mm) => (none : Aa)) (fX7_nextOrder_L47 x2 k_68) mm_fu x4 m3))) else (mm_bo 0 (some (0, m3)))) (fun (k_34 : Int32 → Mm → Aa) => mm_lk (fun (_ : Int32) (_ : Mm) => (none : Aa)) (fX7_nextOrder_L7 k_34) mm_fu x1 μ))
abbrev rX7_nextOrder : Room := { frames := 0, cells := 0, slots := 0, locals := 0 }
set_option maxRecDepth 100000 in
set_option maxHeartbeats 8000000 in
theorem tX7_nextOrder {l : Launch} {D : va_G} {cA : Nat → ClassId} {adr : Nat → Nat} (hJ : mm_J adr NM) (μ : Mm) : mm_Mi l D cA adr sM NM mm_SM yX7_nextOrder cX7_nextOrder 6 (some .boolean) rX7_nextOrder [.ref (adr 0)] μ (fX7_nextOrder μ) := by
  refine mm_entryi hJ mm_okM (by decide) (Nat.le_of_ble_eq_true rfl) ⟨rfl, rfl⟩ (fun p e s m below meth c X hr => ?_)
  generalize ([.ref (adr 0)] : List Value).toArray = args at X ⊢
  refine gx_lv (lv' := [(0, .ref (adr 0))]) rfl ?_
  unfold fX7_nextOrder
  refine gx_aload_n X 0 1 0 dX7_nextOrder_0 rfl rfl rfl ?_
  refine gx_getI X 1 4 0 (by decide) rfl rfl fg_X7_259 dX7_nextOrder_1 rfl ?_
  refine gx_iconst X 4 5 (2) dX7_nextOrder_4 rfl ci_2 ?_
  refine gx_isub X 5 6 dX7_nextOrder_5 rfl ?_
  refine gx_istore_n X 6 7 (fun x1 => [(1, .int x1), (0, .ref (adr 0))]) dX7_nextOrder_6 rfl rfl (by decide) (fun _ => rfl) (fun x1 => ?_)
  refine gx_jn (fun (k : Int32 → Mm → Aa) => ∀ (x2 : Int32) (m3 : Mm), mm_G p l e rX7_nextOrder s m args below meth c 6 D cA adr sM NM (mm_Qi D cA adr sM NM) m3 34 [(0, .ref (adr 0)), (1, .int x2)] [] (k x2 m3)) ?_ (fun k_34 hk_34 => ?_)
  · intro x2 m3
    refine gx_iload_n X 34 35 1 dX7_nextOrder_34 rfl rfl rfl ?_
    refine gx_if_ge X 35 40 38 dX7_nextOrder_35 rfl rfl ?_ ?_
    · refine gx_aload_n X 40 41 0 dX7_nextOrder_40 rfl rfl rfl ?_
      refine gx_getI X 41 44 0 (by decide) rfl rfl fg_X7_259 dX7_nextOrder_41 rfl ?_
      refine gx_iconst X 44 45 (1) dX7_nextOrder_44 rfl ci_1 ?_
      refine gx_isub X 45 46 dX7_nextOrder_45 rfl ?_
      refine gx_istore_n X 46 47 (fun x4 => [(2, .int x4), (0, .ref (adr 0)), (1, .int x2)]) dX7_nextOrder_46 rfl rfl (by decide) (fun _ => rfl) (fun x4 => ?_)
      refine gx_jn (fun (k : Int32 → Mm → Aa) => ∀ (x5 : Int32) (m6 : Mm), mm_G p l e rX7_nextOrder s m args below meth c 6 D cA adr sM NM (mm_Qi D cA adr sM NM) m6 68 [(0, .ref (adr 0)), (1, .int x2), (2, .int x5)] [] (k x5 m6)) ?_ (fun k_68 hk_68 => ?_)
      · intro x5 m6
        refine gx_aload_n X 68 69 0 dX7_nextOrder_68 rfl rfl rfl ?_
        refine gx_getR X 69 72 0 (by decide) rfl rfl fg_X7_74 dX7_nextOrder_69 rfl ?_
        refine gx_iload_n X 72 73 1 dX7_nextOrder_72 rfl rfl rfl ?_
        refine gx_iaload X 73 74 20 (by decide) rfl dX7_nextOrder_73 rfl ?_
        refine gx_istore_n X 74 75 (fun x7 => [(3, .int x7), (0, .ref (adr 0)), (1, .int x2), (2, .int x5)]) dX7_nextOrder_74 rfl rfl (by decide) (fun _ => rfl) (fun x7 => ?_)
        refine gx_aload_n X 75 76 1 dX7_nextOrder_75 rfl rfl rfl ?_
        refine gx_getR X 76 79 0 (by decide) rfl rfl fg_X7_74 dX7_nextOrder_76 rfl ?_
        refine gx_iload_n X 79 80 2 dX7_nextOrder_79 rfl rfl rfl ?_
        refine gx_aload_n X 80 81 1 dX7_nextOrder_80 rfl rfl rfl ?_
        refine gx_getR X 81 84 0 (by decide) rfl rfl fg_X7_74 dX7_nextOrder_81 rfl ?_
        refine gx_iload_n X 84 85 3 dX7_nextOrder_84 rfl rfl rfl ?_
        refine gx_iaload X 85 86 20 (by decide) rfl dX7_nextOrder_85 rfl ?_
        refine gx_iastore X 86 87 20 (by decide) rfl dX7_nextOrder_86 rfl (fun m8 => ?_)
        refine gx_aload_n X 87 88 1 dX7_nextOrder_87 rfl rfl rfl ?_
        refine gx_getR X 88 91 0 (by decide) rfl rfl fg_X7_74 dX7_nextOrder_88 rfl ?_
        refine gx_iload_n X 91 92 3 dX7_nextOrder_91 rfl rfl rfl ?_
        refine gx_iload_n X 92 93 0 dX7_nextOrder_92 rfl rfl rfl ?_
        refine gx_iastore X 93 94 20 (by decide) rfl dX7_nextOrder_93 rfl (fun m9 => ?_)
        refine gx_iload_n X 94 95 2 dX7_nextOrder_94 rfl rfl rfl ?_
        refine gx_iconst X 95 96 (1) dX7_nextOrder_95 rfl ci_1 ?_
        refine gx_iadd X 96 97 dX7_nextOrder_96 rfl ?_
        refine gx_istore X 97 99 (fun x10 => [(4, .int x10), (3, .int x7), (0, .ref (adr 0)), (1, .int x2), (2, .int x5)]) dX7_nextOrder_97 rfl (by decide) (fun _ => rfl) (fun x10 => ?_)
        refine gx_aload_n X 99 100 2 dX7_nextOrder_99 rfl rfl rfl ?_
        refine gx_getI X 100 103 0 (by decide) rfl rfl fg_X7_259 dX7_nextOrder_100 rfl ?_
        refine gx_iconst X 103 104 (1) dX7_nextOrder_103 rfl ci_1 ?_
        refine gx_isub X 104 105 dX7_nextOrder_104 rfl ?_
        refine gx_istore X 105 107 (fun x11 => [(5, .int x11), (4, .int x10), (3, .int x7), (0, .ref (adr 0)), (1, .int x2), (2, .int x5)]) dX7_nextOrder_105 rfl (by decide) (fun _ => rfl) (fun x11 => ?_)
        refine gx_jn (fun (k : Mm → Aa) => ∀ (m12 : Mm), mm_G p l e rX7_nextOrder s m args below meth c 6 D cA adr sM NM (mm_Qi D cA adr sM NM) m12 153 [] [] (k m12)) ?_ (fun k_153 hk_153 => ?_)
        · intro m12
          refine gx_iconst X 153 154 (1) dX7_nextOrder_153 rfl ci_1 ?_
          exact gx_zret X 154 hr dX7_nextOrder_154
        refine gx_sub [3, 1, 0] rfl ?_
        refine mm_lk_ind (fun (rec : Int32 → Int32 → Mm → Aa) => ∀ (x13 : Int32) (x14 : Int32) (m15 : Mm), mm_G p l e rX7_nextOrder s m args below meth c 6 D cA adr sM NM (mm_Qi D cA adr sM NM) m15 107 [(0, .ref (adr 0)), (4, .int x13), (5, .int x14)] [] (rec x13 x14 m15)) (fun _ _ _ => gx_none) (fun rec_107 hr_107 x13 x14 m15 => ?_) mm_fu x10 x11 m9
        unfold fX7_nextOrder_L107
        refine gx_iload X 107 109 1 dX7_nextOrder_107 rfl rfl ?_
        refine gx_iload X 109 111 2 dX7_nextOrder_109 rfl rfl ?_
        refine gx_icmp_ge X 111 153 114 dX7_nextOrder_111 rfl rfl ?_ ?_
        · refine gx_sub [] rfl ?_
          exact hk_153 m15
        refine gx_aload_n X 114 115 0 dX7_nextOrder_114 rfl rfl rfl ?_
        refine gx_getR X 115 118 0 (by decide) rfl rfl fg_X7_74 dX7_nextOrder_115 rfl ?_
        refine gx_iload X 118 120 1 dX7_nextOrder_118 rfl rfl ?_
        refine gx_iaload X 120 121 20 (by decide) rfl dX7_nextOrder_120 rfl ?_
        refine gx_istore_n X 121 122 (fun x16 => [(3, .int x16), (0, .ref (adr 0)), (4, .int x13), (5, .int x14)]) dX7_nextOrder_121 rfl rfl (by decide) (fun _ => rfl) (fun x16 => ?_)
        refine gx_aload_n X 122 123 1 dX7_nextOrder_122 rfl rfl rfl ?_
        refine gx_getR X 123 126 0 (by decide) rfl rfl fg_X7_74 dX7_nextOrder_123 rfl ?_
        refine gx_iload X 126 128 2 dX7_nextOrder_126 rfl rfl ?_
        refine gx_aload_n X 128 129 1 dX7_nextOrder_128 rfl rfl rfl ?_
        refine gx_getR X 129 132 0 (by decide) rfl rfl fg_X7_74 dX7_nextOrder_129 rfl ?_
        refine gx_iload X 132 134 3 dX7_nextOrder_132 rfl rfl ?_
        refine gx_iaload X 134 135 20 (by decide) rfl dX7_nextOrder_134 rfl ?_
        refine gx_iastore X 135 136 20 (by decide) rfl dX7_nextOrder_135 rfl (fun m17 => ?_)
        refine gx_aload_n X 136 137 1 dX7_nextOrder_136 rfl rfl rfl ?_
        refine gx_getR X 137 140 0 (by decide) rfl rfl fg_X7_74 dX7_nextOrder_137 rfl ?_
        refine gx_iload X 140 142 3 dX7_nextOrder_140 rfl rfl ?_
        refine gx_iload_n X 142 143 0 dX7_nextOrder_142 rfl rfl rfl ?_
        refine gx_iastore X 143 144 20 (by decide) rfl dX7_nextOrder_143 rfl (fun m18 => ?_)
        refine gx_iinc X 144 147 2 (1) (fun x19 => [(4, .int x19), (3, .int x16), (0, .ref (adr 0)), (5, .int x14)]) dX7_nextOrder_144 rfl rfl ci_1 (by decide) (fun _ => rfl) (fun x19 => ?_)
        refine gx_iinc X 147 150 3 (-1) (fun x20 => [(5, .int x20), (4, .int x19), (3, .int x16), (0, .ref (adr 0))]) dX7_nextOrder_147 rfl rfl ci_m1 (by decide) (fun _ => rfl) (fun x20 => ?_)
        refine gx_goto X 150 107 dX7_nextOrder_150 rfl ?_
        refine gx_sub [3, 1, 0] rfl ?_
        exact hr_107 x19 x20 m18
      refine gx_sub [1, 2, 0] rfl ?_
      refine mm_lk_ind (fun (rec : Int32 → Mm → Aa) => ∀ (x21 : Int32) (m22 : Mm), mm_G p l e rX7_nextOrder s m args below meth c 6 D cA adr sM NM (mm_Qi D cA adr sM NM) m22 47 [(0, .ref (adr 0)), (1, .int x2), (2, .int x21)] [] (rec x21 m22)) (fun _ _ => gx_none) (fun rec_47 hr_47 x21 m22 => ?_) mm_fu x4 m3
      unfold fX7_nextOrder_L47
      refine gx_aload_n X 47 48 0 dX7_nextOrder_47 rfl rfl rfl ?_
      refine gx_getR X 48 51 0 (by decide) rfl rfl fg_X7_74 dX7_nextOrder_48 rfl ?_
      refine gx_iload_n X 51 52 2 dX7_nextOrder_51 rfl rfl rfl ?_
      refine gx_iaload X 52 53 20 (by decide) rfl dX7_nextOrder_52 rfl ?_
      refine gx_aload_n X 53 54 0 dX7_nextOrder_53 rfl rfl rfl ?_
      refine gx_getR X 54 57 0 (by decide) rfl rfl fg_X7_74 dX7_nextOrder_54 rfl ?_
      refine gx_iload_n X 57 58 1 dX7_nextOrder_57 rfl rfl rfl ?_
      refine gx_iaload X 58 59 20 (by decide) rfl dX7_nextOrder_58 rfl ?_
      refine gx_icmp_ge X 59 68 62 dX7_nextOrder_59 rfl rfl ?_ ?_
      · exact hk_68 x21 m22
      refine gx_iinc X 62 65 2 (-1) (fun x23 => [(2, .int x23), (0, .ref (adr 0)), (1, .int x2)]) dX7_nextOrder_62 rfl rfl ci_m1 (by decide) (fun _ => rfl) (fun x23 => ?_)
      refine gx_goto X 65 47 dX7_nextOrder_65 rfl ?_
      refine gx_sub [1, 2, 0] rfl ?_
      exact hr_47 x23 m22
    refine gx_iconst X 38 39 (0) dX7_nextOrder_38 rfl ci_0 ?_
    exact gx_zret X 39 hr dX7_nextOrder_39
  refine gx_sub [1, 0] rfl ?_
  refine mm_lk_ind (fun (rec : Int32 → Mm → Aa) => ∀ (x24 : Int32) (m25 : Mm), mm_G p l e rX7_nextOrder s m args below meth c 6 D cA adr sM NM (mm_Qi D cA adr sM NM) m25 7 [(0, .ref (adr 0)), (1, .int x24)] [] (rec x24 m25)) (fun _ _ => gx_none) (fun rec_7 hr_7 x24 m25 => ?_) mm_fu x1 μ
  unfold fX7_nextOrder_L7
  refine gx_iload_n X 7 8 1 dX7_nextOrder_7 rfl rfl rfl ?_
  refine gx_if_lt X 8 34 11 dX7_nextOrder_8 rfl rfl ?_ ?_
  · exact hk_34 x24 m25
  refine gx_aload_n X 11 12 0 dX7_nextOrder_11 rfl rfl rfl ?_
  refine gx_getR X 12 15 0 (by decide) rfl rfl fg_X7_74 dX7_nextOrder_12 rfl ?_
  refine gx_iload_n X 15 16 1 dX7_nextOrder_15 rfl rfl rfl ?_
  refine gx_iaload X 16 17 20 (by decide) rfl dX7_nextOrder_16 rfl ?_
  refine gx_aload_n X 17 18 0 dX7_nextOrder_17 rfl rfl rfl ?_
  refine gx_getR X 18 21 0 (by decide) rfl rfl fg_X7_74 dX7_nextOrder_18 rfl ?_
  refine gx_iload_n X 21 22 1 dX7_nextOrder_21 rfl rfl rfl ?_
  refine gx_iconst X 22 23 (1) dX7_nextOrder_22 rfl ci_1 ?_
  refine gx_iadd X 23 24 dX7_nextOrder_23 rfl ?_
  refine gx_iaload X 24 25 20 (by decide) rfl dX7_nextOrder_24 rfl ?_
  refine gx_icmp_le X 25 34 28 dX7_nextOrder_25 rfl rfl ?_ ?_
  · exact hk_34 x24 m25
  refine gx_iinc X 28 31 1 (-1) (fun x26 => [(1, .int x26), (0, .ref (adr 0))]) dX7_nextOrder_28 rfl rfl ci_m1 (by decide) (fun _ => rfl) (fun x26 => ?_)
  refine gx_goto X 31 7 dX7_nextOrder_31 rfl ?_
  refine gx_sub [1, 0] rfl ?_
  exact hr_7 x26 m25
