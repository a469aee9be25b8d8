def fX7_stepOff_L237 (a1 : Int32) (k_267 : Mm → Aa) (rec_237 : Int32 → Mm → Aa) (x11 : Int32) (m12 : Mm) : Aa := if (m12 0 1) ≤ x11 then (k_267 m12) else (mm_ck x11 10 (mm_lt (fun (m13 : Mm) => mm_lt (x11 + 1) (fun (x14 : Int32) => rec_237 x14 m13)) (fun (k_261 : Mm → Aa) => if (m12 17 x11.toNatClampNeg) = 1 then (mm_cl (fX7_comeOver x11 a1 m12) (fun (x15 : Int32) (m16 : Mm) => k_261 m16)) else (k_261 m12))))
def fX7_stepOff_L110 (x18 : Int32) (k_216 : Int32 → Int32 → Mm → Aa) (rec_110 : Int32 → Int32 → Int32 → Mm → Aa) (x30 : Int32) (x31 : Int32) (x32 : Int32) (m33 : Mm) : Aa := if (m33 0 1) ≤ x32 then (k_216 x30 x31 m33) else (mm_ck x32 10 (mm_lt (fun (x34 : Int32) (m35 : Mm) => mm_lt x34 (fun (x36 : Int32) => mm_lt (fun (x37 : Int32) (m38 : Mm) => mm_lt (x30 + x37) (fun (x39 : Int32) => mm_lt (fun (x40 : Int32) (m41 : Mm) => mm_lt (x31 + x40) (fun (x42 : Int32) => mm_lt (x32 + 1) (fun (x43 : Int32) => rec_110 x39 x42 x43 m41))) (fun (k_207 : Int32 → Mm → Aa) => mm_lt (fun (m44 : Mm) => k_207 0 m44) (fun (k_206 : Mm → Aa) => if x36 = 0 then (k_206 m38) else (mm_ck ((7 * x32) + 2) 70 (if (m38 1 ((7 * x32) + 2).toNatClampNeg) = 3 then (k_207 1 m38) else (k_206 m38))))))) (fun (k_176 : Int32 → Mm → Aa) => mm_lt (fun (m45 : Mm) => k_176 0 m45) (fun (k_175 : Mm → Aa) => if x36 = 0 then (k_175 m35) else (mm_ck ((7 * x32) + 2) 70 (if (m35 1 ((7 * x32) + 2).toNatClampNeg) = 3 then (k_175 m35) else (k_176 1 m35))))))) (fun (k_146 : Int32 → Mm → Aa) => mm_lt (fun (m46 : Mm) => k_146 0 m46) (fun (k_145 : Mm → Aa) => if (m33 17 x32.toNatClampNeg) = 1 then (mm_ck x32 10 (if (m33 6 x32.toNatClampNeg) = x18 then (k_145 m33) else (k_146 1 m33))) else (k_145 m33)))))
def fX7_stepOff_L96 (a1 : Int32) (k_235 : Int32 → Mm → Aa) (rec_96 : Int32 → Int32 → Mm → Aa) (x17 : Int32) (x18 : Int32) (m19 : Mm) : Aa := if 2 ≤ x18 then (k_235 x17 m19) else (mm_lt 0 (fun (x20 : Int32) => mm_lt 0 (fun (x21 : Int32) => mm_lt 0 (fun (x22 : Int32) => mm_lt (fun (x23 : Int32) (x24 : Int32) (m25 : Mm) => mm_cl (fX7_countsAt x18 a1 x23 x24 m25) (fun (x26 : Int32) (m27 : Mm) => mm_lt (x17 + x26) (fun (x28 : Int32) => mm_lt (x18 + 1) (fun (x29 : Int32) => rec_96 x28 x29 m27)))) (fun (k_216 : Int32 → Int32 → Mm → Aa) => mm_lk (fun (_ : Int32) (_ : Int32) (_ : Int32) (_ : Mm) => (none : Aa)) (fX7_stepOff_L110 x18 k_216) mm_fu x20 x21 x22 m19)))))
def fX7_stepOff_L2 (k_92 : Mm → Aa) (rec_2 : Int32 → Mm → Aa) (x47 : Int32) (m48 : Mm) : Aa := if (m48 0 1) ≤ x47 then (k_92 m48) else (mm_ck x47 10 (mm_lt (fun (x49 : Int32) (m50 : Mm) => mm_lt x49 (fun (x51 : Int32) => mm_lt (fun (x52 : Int32) (m53 : Mm) => mm_ck x47 10 (mm_lt (mm_wr m53 17 x47.toNatClampNeg x52) (fun (m54 : Mm) => mm_ck x47 10 (mm_lt (fun (x55 : Int32) (m56 : Mm) => mm_ck x47 10 (mm_lt (mm_wr m56 13 x47.toNatClampNeg ((m54 13 x47.toNatClampNeg) + x55)) (fun (m57 : Mm) => mm_lt (x47 + 1) (fun (x58 : Int32) => rec_2 x58 m57)))) (fun (k_84 : Int32 → Mm → Aa) => mm_lt (fun (m59 : Mm) => k_84 0 m59) (fun (k_83 : Mm → Aa) => if x51 = 0 then (k_83 m54) else (mm_ck x47 10 (if (m54 17 x47.toNatClampNeg) = 0 then (k_84 1 m54) else (k_83 m54))))))))) (fun (k_58 : Int32 → Mm → Aa) => mm_lt (fun (m60 : Mm) => k_58 0 m60) (fun (k_57 : Mm → Aa) => if x51 = 0 then (k_57 m50) else (mm_cl (fX7_mustWait x47 m50) (fun (x61 : Int32) (m62 : Mm) => if x61 = 0 then (k_58 1 m62) else (k_57 m62))))))) (fun (k_35 : Int32 → Mm → Aa) => mm_lt (fun (m63 : Mm) => k_35 0 m63) (fun (k_34 : Mm → Aa) => if (m48 5 x47.toNatClampNeg) = 2 then (mm_ck x47 10 (if (m48 8 x47.toNatClampNeg) = 1 then (k_35 1 m48) else (k_34 m48))) else (k_34 m48)))))
def fX7_stepOff (a1 : Int32) (μ : Mm) : Aa := mm_lt 0 (fun (x1 : Int32) => mm_lt (fun (m2 : Mm) => mm_lt 0 (fun (x3 : Int32) => mm_lt 0 (fun (x4 : Int32) => mm_lt (fun (x5 : Int32) (m6 : Mm) => mm_lt 0 (fun (x7 : Int32) => mm_lt (fun (m8 : Mm) => mm_cl (fX7_grow x5 m8) (fun (x9 : Int32) (m10 : Mm) => some (0, m10))) (fun (k_267 : Mm → Aa) => mm_lk (fun (_ : Int32) (_ : Mm) => (none : Aa)) (fX7_stepOff_L237 a1 k_267) mm_fu x7 m6))) (fun (k_235 : Int32 → Mm → Aa) => mm_lk (fun (_ : Int32) (_ : Int32) (_ : Mm) => (none : Aa)) (fX7_stepOff_L96 a1 k_235) mm_fu x3 x4 m2)))) (fun (k_92 : Mm → Aa) => mm_lk (fun (_ : Int32) (_ : Mm) => (none : Aa)) (fX7_stepOff_L2 k_92) mm_fu x1 μ))
abbrev rX7_stepOff : Room := { frames := 2, cells := 0, slots := 0, locals := 42 }
set_option maxRecDepth 100000 in
set_option maxHeartbeats 8000000 in
theorem tX7_stepOff {l : Launch} {D : va_G} {cA : Nat → ClassId} {adr : Nat → Nat} (hJ : mm_J adr NM) (a1 : Int32) (μ : Mm) : mm_Mv l D cA adr sM NM mm_SM yX7_stepOff cX7_stepOff 8 none rX7_stepOff [.ref (adr 0), .int a1] μ (fX7_stepOff a1 μ) := by
  refine mm_entryv hJ mm_okM (by decide) (Nat.le_of_ble_eq_true rfl) ⟨rfl, rfl⟩ (fun p e s m below meth c X hr => ?_)
  generalize ([.ref (adr 0), .int a1] : List Value).toArray = args at X ⊢
  refine gx_lv (lv' := [(0, .ref (adr 0)), (1, .int a1)]) rfl ?_
  unfold fX7_stepOff
  refine gx_iconst X 0 1 (0) dX7_stepOff_0 rfl ci_0 ?_
  refine gx_istore_n X 1 2 (fun x1 => [(2, .int x1), (0, .ref (adr 0)), (1, .int a1)]) dX7_stepOff_1 rfl rfl (by decide) (fun _ => rfl) (fun x1 => ?_)
  refine gx_jn (fun (k : Mm → Aa) => ∀ (m2 : Mm), mm_G p l e rX7_stepOff s m args below meth c 8 D cA adr sM NM (mm_Qv D cA adr sM NM) m2 92 [(0, .ref (adr 0)), (1, .int a1)] [] (k m2)) ?_ (fun k_92 hk_92 => ?_)
  · intro m2
    refine gx_iconst X 92 93 (0) dX7_stepOff_92 rfl ci_0 ?_
    refine gx_istore_n X 93 94 (fun x3 => [(2, .int x3), (0, .ref (adr 0)), (1, .int a1)]) dX7_stepOff_93 rfl rfl (by decide) (fun _ => rfl) (fun x3 => ?_)
    refine gx_iconst X 94 95 (0) dX7_stepOff_94 rfl ci_0 ?_
    refine gx_istore_n X 95 96 (fun x4 => [(3, .int x4), (2, .int x3), (0, .ref (adr 0)), (1, .int a1)]) dX7_stepOff_95 rfl rfl (by decide) (fun _ => rfl) (fun x4 => ?_)
    refine gx_jn (fun (k : Int32 → Mm → Aa) => ∀ (x5 : Int32) (m6 : Mm), mm_G p l e rX7_stepOff s m args below meth c 8 D cA adr sM NM (mm_Qv D cA adr sM NM) m6 235 [(0, .ref (adr 0)), (1, .int a1), (2, .int x5)] [] (k x5 m6)) ?_ (fun k_235 hk_235 => ?_)
    · intro x5 m6
      refine gx_iconst X 235 236 (0) dX7_stepOff_235 rfl ci_0 ?_
      refine gx_istore_n X 236 237 (fun x7 => [(3, .int x7), (0, .ref (adr 0)), (1, .int a1), (2, .int x5)]) dX7_stepOff_236 rfl rfl (by decide) (fun _ => rfl) (fun x7 => ?_)
      refine gx_jn (fun (k : Mm → Aa) => ∀ (m8 : Mm), mm_G p l e rX7_stepOff s m args below meth c 8 D cA adr sM NM (mm_Qv D cA adr sM NM) m8 267 [(0, .ref (adr 0)), (2, .int x5)] [] (k m8)) ?_ (fun k_267 hk_267 => ?_)
      · intro m8
        refine gx_aload_n X 267 268 0 dX7_stepOff_267 rfl rfl rfl ?_
        refine gx_iload_n X 268 269 1 dX7_stepOff_268 rfl rfl rfl ?_
        refine gx_callvV X 269 272 0 (rest := []) (As := [.int x5]) (tX7_grow hJ x5 m8) (by decide) rfl rfl wc_X7_grow wl_X7_217 wi_X7_grow ws_X7_grow wn_X7 rfl hd_X7_grow ⟨Nat.le_of_ble_eq_true rfl, Nat.le_of_ble_eq_true rfl⟩ ⟨rfl, rfl⟩ rfl rfl (Nat.le_of_ble_eq_true rfl) dX7_stepOff_269 rfl (fun x9 m10 => ?_)
        exact gx_vret X 272 hr dX7_stepOff_272
      refine gx_sub [1, 2, 3, 0] rfl ?_
      refine mm_lk_ind (fun (rec : Int32 → Mm → Aa) => ∀ (x11 : Int32) (m12 : Mm), mm_G p l e rX7_stepOff s m args below meth c 8 D cA adr sM NM (mm_Qv D cA adr sM NM) m12 237 [(0, .ref (adr 0)), (1, .int a1), (2, .int x5), (3, .int x11)] [] (rec x11 m12)) (fun _ _ => gx_none) (fun rec_237 hr_237 x11 m12 => ?_) mm_fu x7 m6
      unfold fX7_stepOff_L237
      refine gx_iload_n X 237 238 3 dX7_stepOff_237 rfl rfl rfl ?_
      refine gx_aload_n X 238 239 0 dX7_stepOff_238 rfl rfl rfl ?_
      refine gx_getI X 239 242 0 (by decide) rfl rfl fg_X7_98 dX7_stepOff_239 rfl ?_
      refine gx_icmp_ge X 242 267 245 dX7_stepOff_242 rfl rfl ?_ ?_
      · refine gx_sub [0, 2] rfl ?_
        exact hk_267 m12
      refine gx_aload_n X 245 246 0 dX7_stepOff_245 rfl rfl rfl ?_
      refine gx_getR X 246 249 0 (by decide) rfl rfl fg_X7_62 dX7_stepOff_246 rfl ?_
      refine gx_iload_n X 249 250 3 dX7_stepOff_249 rfl rfl rfl ?_
      refine gx_iaload X 250 251 17 (by decide) rfl dX7_stepOff_250 rfl ?_
      refine gx_iconst X 251 252 (1) dX7_stepOff_251 rfl ci_1 ?_
      refine gx_jn (fun (k : Mm → Aa) => ∀ (m13 : Mm), mm_G p l e rX7_stepOff s m args below meth c 8 D cA adr sM NM (mm_Qv D cA adr sM NM) m13 261 [(0, .ref (adr 0)), (1, .int a1), (2, .int x5), (3, .int x11)] [] (k m13)) ?_ (fun k_261 hk_261 => ?_)
      · intro m13
        refine gx_iinc X 261 264 3 (1) (fun x14 => [(3, .int x14), (0, .ref (adr 0)), (1, .int a1), (2, .int x5)]) dX7_stepOff_261 rfl rfl ci_1 (by decide) (fun _ => rfl) (fun x14 => ?_)
        refine gx_goto X 264 237 dX7_stepOff_264 rfl ?_
        refine gx_sub [1, 2, 3, 0] rfl ?_
        exact hr_237 x14 m13
      refine gx_icmp_ne X 252 261 255 dX7_stepOff_252 rfl rfl ?_ ?_
      · exact hk_261 m12
      refine gx_aload_n X 255 256 0 dX7_stepOff_255 rfl rfl rfl ?_
      refine gx_iload_n X 256 257 3 dX7_stepOff_256 rfl rfl rfl ?_
      refine gx_iload_n X 257 258 1 dX7_stepOff_257 rfl rfl rfl ?_
      refine gx_callvV X 258 261 0 (rest := []) (As := [.int x11, .int a1]) (tX7_comeOver hJ x11 a1 m12) (by decide) rfl rfl wc_X7_comeOver wl_X7_213 wi_X7_comeOver ws_X7_comeOver wn_X7 rfl hd_X7_comeOver ⟨Nat.le_of_ble_eq_true rfl, Nat.le_of_ble_eq_true rfl⟩ ⟨rfl, rfl⟩ rfl rfl (Nat.le_of_ble_eq_true rfl) dX7_stepOff_258 rfl (fun x15 m16 => ?_)
      exact hk_261 m16
    refine gx_sub [2, 3, 1, 0] rfl ?_
    refine mm_lk_ind (fun (rec : Int32 → Int32 → Mm → Aa) => ∀ (x17 : Int32) (x18 : Int32) (m19 : Mm), mm_G p l e rX7_stepOff s m args below meth c 8 D cA adr sM NM (mm_Qv D cA adr sM NM) m19 96 [(0, .ref (adr 0)), (1, .int a1), (2, .int x17), (3, .int x18)] [] (rec x17 x18 m19)) (fun _ _ _ => gx_none) (fun rec_96 hr_96 x17 x18 m19 => ?_) mm_fu x3 x4 m2
    unfold fX7_stepOff_L96
    refine gx_iload_n X 96 97 3 dX7_stepOff_96 rfl rfl rfl ?_
    refine gx_iconst X 97 98 (2) dX7_stepOff_97 rfl ci_2 ?_
    refine gx_icmp_ge X 98 235 101 dX7_stepOff_98 rfl rfl ?_ ?_
    · refine gx_sub [0, 1, 2] rfl ?_
      exact hk_235 x17 m19
    refine gx_iconst X 101 102 (0) dX7_stepOff_101 rfl ci_0 ?_
    refine gx_istore X 102 104 (fun x20 => [(4, .int x20), (0, .ref (adr 0)), (1, .int a1), (2, .int x17), (3, .int x18)]) dX7_stepOff_102 rfl (by decide) (fun _ => rfl) (fun x20 => ?_)
    refine gx_iconst X 104 105 (0) dX7_stepOff_104 rfl ci_0 ?_
    refine gx_istore X 105 107 (fun x21 => [(5, .int x21), (4, .int x20), (0, .ref (adr 0)), (1, .int a1), (2, .int x17), (3, .int x18)]) dX7_stepOff_105 rfl (by decide) (fun _ => rfl) (fun x21 => ?_)
    refine gx_iconst X 107 108 (0) dX7_stepOff_107 rfl ci_0 ?_
    refine gx_istore X 108 110 (fun x22 => [(6, .int x22), (5, .int x21), (4, .int x20), (0, .ref (adr 0)), (1, .int a1), (2, .int x17), (3, .int x18)]) dX7_stepOff_108 rfl (by decide) (fun _ => rfl) (fun x22 => ?_)
    refine gx_jn (fun (k : Int32 → Int32 → Mm → Aa) => ∀ (x23 : Int32) (x24 : Int32) (m25 : Mm), mm_G p l e rX7_stepOff s m args below meth c 8 D cA adr sM NM (mm_Qv D cA adr sM NM) m25 216 [(0, .ref (adr 0)), (1, .int a1), (2, .int x17), (3, .int x18), (4, .int x23), (5, .int x24)] [] (k x23 x24 m25)) ?_ (fun k_216 hk_216 => ?_)
    · intro x23 x24 m25
      refine gx_iload_n X 216 217 2 dX7_stepOff_216 rfl rfl rfl ?_
      refine gx_aload_n X 217 218 0 dX7_stepOff_217 rfl rfl rfl ?_
      refine gx_iload_n X 218 219 3 dX7_stepOff_218 rfl rfl rfl ?_
      refine gx_iload_n X 219 220 1 dX7_stepOff_219 rfl rfl rfl ?_
      refine gx_iload X 220 222 4 dX7_stepOff_220 rfl rfl ?_
      refine gx_iload X 222 224 5 dX7_stepOff_222 rfl rfl ?_
      refine gx_calliV X 224 227 0 (rest := [.int x17]) (As := [.int x18, .int a1, .int x23, .int x24]) (tX7_countsAt hJ x18 a1 x23 x24 m25) (by decide) rfl rfl wc_X7_countsAt wl_X7_209 wi_X7_countsAt ws_X7_countsAt wn_X7 rfl hd_X7_countsAt ⟨Nat.le_of_ble_eq_true rfl, Nat.le_of_ble_eq_true rfl⟩ ⟨rfl, rfl⟩ rfl rfl (Nat.le_of_ble_eq_true rfl) dX7_stepOff_224 rfl (fun x26 m27 => ?_)
      refine gx_iadd X 227 228 dX7_stepOff_227 rfl ?_
      refine gx_istore_n X 228 229 (fun x28 => [(2, .int x28), (0, .ref (adr 0)), (1, .int a1), (3, .int x18), (4, .int x23), (5, .int x24)]) dX7_stepOff_228 rfl rfl (by decide) (fun _ => rfl) (fun x28 => ?_)
      refine gx_iinc X 229 232 3 (1) (fun x29 => [(3, .int x29), (2, .int x28), (0, .ref (adr 0)), (1, .int a1), (4, .int x23), (5, .int x24)]) dX7_stepOff_229 rfl rfl ci_1 (by decide) (fun _ => rfl) (fun x29 => ?_)
      refine gx_goto X 232 96 dX7_stepOff_232 rfl ?_
      refine gx_sub [2, 3, 1, 0] rfl ?_
      exact hr_96 x28 x29 m27
    refine gx_sub [3, 4, 5, 6, 2, 1, 0] rfl ?_
    refine mm_lk_ind (fun (rec : Int32 → Int32 → Int32 → Mm → Aa) => ∀ (x30 : Int32) (x31 : Int32) (x32 : Int32) (m33 : Mm), mm_G p l e rX7_stepOff s m args below meth c 8 D cA adr sM NM (mm_Qv D cA adr sM NM) m33 110 [(0, .ref (adr 0)), (1, .int a1), (2, .int x17), (3, .int x18), (4, .int x30), (5, .int x31), (6, .int x32)] [] (rec x30 x31 x32 m33)) (fun _ _ _ _ => gx_none) (fun rec_110 hr_110 x30 x31 x32 m33 => ?_) mm_fu x20 x21 x22 m19
    unfold fX7_stepOff_L110
    refine gx_iload X 110 112 6 dX7_stepOff_110 rfl rfl ?_
    refine gx_aload_n X 112 113 0 dX7_stepOff_112 rfl rfl rfl ?_
    refine gx_getI X 113 116 0 (by decide) rfl rfl fg_X7_98 dX7_stepOff_113 rfl ?_
    refine gx_icmp_ge X 116 216 119 dX7_stepOff_116 rfl rfl ?_ ?_
    · refine gx_sub [0, 1, 2, 3, 4, 5] rfl ?_
      exact hk_216 x30 x31 m33
    refine gx_aload_n X 119 120 0 dX7_stepOff_119 rfl rfl rfl ?_
    refine gx_getR X 120 123 0 (by decide) rfl rfl fg_X7_62 dX7_stepOff_120 rfl ?_
    refine gx_iload X 123 125 6 dX7_stepOff_123 rfl rfl ?_
    refine gx_iaload X 125 126 17 (by decide) rfl dX7_stepOff_125 rfl ?_
    refine gx_iconst X 126 127 (1) dX7_stepOff_126 rfl ci_1 ?_
    refine gx_jn (fun (k : Int32 → Mm → Aa) => ∀ (x34 : Int32) (m35 : Mm), mm_G p l e rX7_stepOff s m args below meth c 8 D cA adr sM NM (mm_Qv D cA adr sM NM) m35 146 [(0, .ref (adr 0)), (1, .int a1), (2, .int x17), (3, .int x18), (4, .int x30), (5, .int x31), (6, .int x32)] [.int x34] (k x34 m35)) ?_ (fun k_146 hk_146 => ?_)
    · intro x34 m35
      refine gx_istore X 146 148 (fun x36 => [(7, .int x36), (0, .ref (adr 0)), (1, .int a1), (2, .int x17), (3, .int x18), (4, .int x30), (5, .int x31), (6, .int x32)]) dX7_stepOff_146 rfl (by decide) (fun _ => rfl) (fun x36 => ?_)
      refine gx_iload X 148 150 5 dX7_stepOff_148 rfl rfl ?_
      refine gx_iload X 150 152 0 dX7_stepOff_150 rfl rfl ?_
      refine gx_jn (fun (k : Int32 → Mm → Aa) => ∀ (x37 : Int32) (m38 : Mm), mm_G p l e rX7_stepOff s m args below meth c 8 D cA adr sM NM (mm_Qv D cA adr sM NM) m38 176 [(0, .ref (adr 0)), (1, .int a1), (2, .int x17), (3, .int x18), (5, .int x31), (6, .int x32), (7, .int x36)] [.int x37, .int x30] (k x37 m38)) ?_ (fun k_176 hk_176 => ?_)
      · intro x37 m38
        refine gx_iadd X 176 177 dX7_stepOff_176 rfl ?_
        refine gx_istore X 177 179 (fun x39 => [(4, .int x39), (0, .ref (adr 0)), (1, .int a1), (2, .int x17), (3, .int x18), (5, .int x31), (6, .int x32), (7, .int x36)]) dX7_stepOff_177 rfl (by decide) (fun _ => rfl) (fun x39 => ?_)
        refine gx_iload X 179 181 5 dX7_stepOff_179 rfl rfl ?_
        refine gx_iload X 181 183 7 dX7_stepOff_181 rfl rfl ?_
        refine gx_jn (fun (k : Int32 → Mm → Aa) => ∀ (x40 : Int32) (m41 : Mm), mm_G p l e rX7_stepOff s m args below meth c 8 D cA adr sM NM (mm_Qv D cA adr sM NM) m41 207 [(0, .ref (adr 0)), (1, .int a1), (2, .int x17), (3, .int x18), (4, .int x39), (6, .int x32)] [.int x40, .int x31] (k x40 m41)) ?_ (fun k_207 hk_207 => ?_)
        · intro x40 m41
          refine gx_iadd X 207 208 dX7_stepOff_207 rfl ?_
          refine gx_istore X 208 210 (fun x42 => [(5, .int x42), (0, .ref (adr 0)), (1, .int a1), (2, .int x17), (3, .int x18), (4, .int x39), (6, .int x32)]) dX7_stepOff_208 rfl (by decide) (fun _ => rfl) (fun x42 => ?_)
          refine gx_iinc X 210 213 6 (1) (fun x43 => [(6, .int x43), (5, .int x42), (0, .ref (adr 0)), (1, .int a1), (2, .int x17), (3, .int x18), (4, .int x39)]) dX7_stepOff_210 rfl rfl ci_1 (by decide) (fun _ => rfl) (fun x43 => ?_)
          refine gx_goto X 213 110 dX7_stepOff_213 rfl ?_
          refine gx_sub [2, 3, 4, 5, 6, 1, 0] rfl ?_
          exact hr_110 x39 x42 x43 m41
        refine gx_jn (fun (k : Mm → Aa) => ∀ (m44 : Mm), mm_G p l e rX7_stepOff s m args below meth c 8 D cA adr sM NM (mm_Qv D cA adr sM NM) m44 206 [(0, .ref (adr 0)), (1, .int a1), (2, .int x17), (3, .int x18), (4, .int x39), (6, .int x32)] [.int x31] (k m44)) ?_ (fun k_206 hk_206 => ?_)
        · intro m44
          refine gx_iconst X 206 207 (0) dX7_stepOff_206 rfl ci_0 ?_
          exact hk_207 0 m44
        refine gx_if_eq X 183 206 186 dX7_stepOff_183 rfl rfl ?_ ?_
        · refine gx_sub [1, 2, 3, 4, 0, 6] rfl ?_
          exact hk_206 m38
        refine gx_aload_n X 186 187 1 dX7_stepOff_186 rfl rfl rfl ?_
        refine gx_getR X 187 190 0 (by decide) rfl rfl fg_X7_7 dX7_stepOff_187 rfl ?_
        refine gx_bipush X 190 192 (7) dX7_stepOff_190 rfl cb_7 ?_
        refine gx_iload X 192 194 6 dX7_stepOff_192 rfl rfl ?_
        refine gx_imul X 194 195 dX7_stepOff_194 rfl ?_
        refine gx_iconst X 195 196 (2) dX7_stepOff_195 rfl ci_2 ?_
        refine gx_iadd X 196 197 dX7_stepOff_196 rfl ?_
        refine gx_iaload X 197 198 1 (by decide) rfl dX7_stepOff_197 rfl ?_
        refine gx_iconst X 198 199 (3) dX7_stepOff_198 rfl ci_3 ?_
        refine gx_icmp_ne X 199 206 202 dX7_stepOff_199 rfl rfl ?_ ?_
        · refine gx_sub [1, 2, 3, 4, 0, 6] rfl ?_
          exact hk_206 m38
        refine gx_iconst X 202 203 (1) dX7_stepOff_202 rfl ci_1 ?_
        refine gx_goto X 203 207 dX7_stepOff_203 rfl ?_
        refine gx_sub [1, 2, 3, 4, 0, 6] rfl ?_
        exact hk_207 1 m38
      refine gx_jn (fun (k : Mm → Aa) => ∀ (m45 : Mm), mm_G p l e rX7_stepOff s m args below meth c 8 D cA adr sM NM (mm_Qv D cA adr sM NM) m45 175 [(0, .ref (adr 0)), (1, .int a1), (2, .int x17), (3, .int x18), (5, .int x31), (6, .int x32), (7, .int x36)] [.int x30] (k m45)) ?_ (fun k_175 hk_175 => ?_)
      · intro m45
        refine gx_iconst X 175 176 (0) dX7_stepOff_175 rfl ci_0 ?_
        exact hk_176 0 m45
      refine gx_if_eq X 152 175 155 dX7_stepOff_152 rfl rfl ?_ ?_
      · refine gx_sub [1, 2, 3, 4, 6, 7, 0] rfl ?_
        exact hk_175 m35
      refine gx_aload_n X 155 156 1 dX7_stepOff_155 rfl rfl rfl ?_
      refine gx_getR X 156 159 0 (by decide) rfl rfl fg_X7_7 dX7_stepOff_156 rfl ?_
      refine gx_bipush X 159 161 (7) dX7_stepOff_159 rfl cb_7 ?_
      refine gx_iload X 161 163 7 dX7_stepOff_161 rfl rfl ?_
      refine gx_imul X 163 164 dX7_stepOff_163 rfl ?_
      refine gx_iconst X 164 165 (2) dX7_stepOff_164 rfl ci_2 ?_
      refine gx_iadd X 165 166 dX7_stepOff_165 rfl ?_
      refine gx_iaload X 166 167 1 (by decide) rfl dX7_stepOff_166 rfl ?_
      refine gx_iconst X 167 168 (3) dX7_stepOff_167 rfl ci_3 ?_
      refine gx_icmp_eq X 168 175 171 dX7_stepOff_168 rfl rfl ?_ ?_
      · refine gx_sub [1, 2, 3, 4, 6, 7, 0] rfl ?_
        exact hk_175 m35
      refine gx_iconst X 171 172 (1) dX7_stepOff_171 rfl ci_1 ?_
      refine gx_goto X 172 176 dX7_stepOff_172 rfl ?_
      refine gx_sub [1, 2, 3, 4, 6, 7, 0] rfl ?_
      exact hk_176 1 m35
    refine gx_jn (fun (k : Mm → Aa) => ∀ (m46 : Mm), mm_G p l e rX7_stepOff s m args below meth c 8 D cA adr sM NM (mm_Qv D cA adr sM NM) m46 145 [(0, .ref (adr 0)), (1, .int a1), (2, .int x17), (3, .int x18), (4, .int x30), (5, .int x31), (6, .int x32)] [] (k m46)) ?_ (fun k_145 hk_145 => ?_)
    · intro m46
      refine gx_iconst X 145 146 (0) dX7_stepOff_145 rfl ci_0 ?_
      exact hk_146 0 m46
    refine gx_icmp_ne X 127 145 130 dX7_stepOff_127 rfl rfl ?_ ?_
    · exact hk_145 m33
    refine gx_aload_n X 130 131 0 dX7_stepOff_130 rfl rfl rfl ?_
    refine gx_getR X 131 134 0 (by decide) rfl rfl fg_X7_29 dX7_stepOff_131 rfl ?_
    refine gx_iload X 134 136 6 dX7_stepOff_134 rfl rfl ?_
    refine gx_iaload X 136 137 6 (by decide) rfl dX7_stepOff_136 rfl ?_
    refine gx_iload_n X 137 138 3 dX7_stepOff_137 rfl rfl rfl ?_
    refine gx_icmp_eq X 138 145 141 dX7_stepOff_138 rfl rfl ?_ ?_
    · exact hk_145 m33
    refine gx_iconst X 141 142 (1) dX7_stepOff_141 rfl ci_1 ?_
    refine gx_goto X 142 146 dX7_stepOff_142 rfl ?_
    exact hk_146 1 m33
  refine gx_sub [1, 2, 0] rfl ?_
  refine mm_lk_ind (fun (rec : Int32 → Mm → Aa) => ∀ (x47 : Int32) (m48 : Mm), mm_G p l e rX7_stepOff s m args below meth c 8 D cA adr sM NM (mm_Qv D cA adr sM NM) m48 2 [(0, .ref (adr 0)), (1, .int a1), (2, .int x47)] [] (rec x47 m48)) (fun _ _ => gx_none) (fun rec_2 hr_2 x47 m48 => ?_) mm_fu x1 μ
  unfold fX7_stepOff_L2
  refine gx_iload_n X 2 3 2 dX7_stepOff_2 rfl rfl rfl ?_
  refine gx_aload_n X 3 4 0 dX7_stepOff_3 rfl rfl rfl ?_
  refine gx_getI X 4 7 0 (by decide) rfl rfl fg_X7_98 dX7_stepOff_4 rfl ?_
  refine gx_icmp_ge X 7 92 10 dX7_stepOff_7 rfl rfl ?_ ?_
  · refine gx_sub [0, 1] rfl ?_
    exact hk_92 m48
  refine gx_aload_n X 10 11 0 dX7_stepOff_10 rfl rfl rfl ?_
  refine gx_getR X 11 14 0 (by decide) rfl rfl fg_X7_26 dX7_stepOff_11 rfl ?_
  refine gx_iload_n X 14 15 2 dX7_stepOff_14 rfl rfl rfl ?_
  refine gx_iaload X 15 16 5 (by decide) rfl dX7_stepOff_15 rfl ?_
  refine gx_iconst X 16 17 (2) dX7_stepOff_16 rfl ci_2 ?_
  refine gx_jn (fun (k : Int32 → Mm → Aa) => ∀ (x49 : Int32) (m50 : Mm), mm_G p l e rX7_stepOff s m args below meth c 8 D cA adr sM NM (mm_Qv D cA adr sM NM) m50 35 [(0, .ref (adr 0)), (1, .int a1), (2, .int x47)] [.int x49] (k x49 m50)) ?_ (fun k_35 hk_35 => ?_)
  · intro x49 m50
    refine gx_istore_n X 35 36 (fun x51 => [(3, .int x51), (0, .ref (adr 0)), (1, .int a1), (2, .int x47)]) dX7_stepOff_35 rfl rfl (by decide) (fun _ => rfl) (fun x51 => ?_)
    refine gx_aload_n X 36 37 1 dX7_stepOff_36 rfl rfl rfl ?_
    refine gx_getR X 37 40 0 (by decide) rfl rfl fg_X7_62 dX7_stepOff_37 rfl ?_
    refine gx_iload_n X 40 41 3 dX7_stepOff_40 rfl rfl rfl ?_
    refine gx_iload_n X 41 42 0 dX7_stepOff_41 rfl rfl rfl ?_
    refine gx_jn (fun (k : Int32 → Mm → Aa) => ∀ (x52 : Int32) (m53 : Mm), mm_G p l e rX7_stepOff s m args below meth c 8 D cA adr sM NM (mm_Qv D cA adr sM NM) m53 58 [(0, .ref (adr 0)), (1, .int a1), (2, .int x47), (3, .int x51)] [.int x52, .int x47, .ref (adr 17)] (k x52 m53)) ?_ (fun k_58 hk_58 => ?_)
    · intro x52 m53
      refine gx_iastore X 58 59 17 (by decide) rfl dX7_stepOff_58 rfl (fun m54 => ?_)
      refine gx_aload_n X 59 60 0 dX7_stepOff_59 rfl rfl rfl ?_
      refine gx_getR X 60 63 0 (by decide) rfl rfl fg_X7_50 dX7_stepOff_60 rfl ?_
      refine gx_iload_n X 63 64 2 dX7_stepOff_63 rfl rfl rfl ?_
      refine gx_dup2 X 64 65 dX7_stepOff_64 rfl rfl rfl ?_
      refine gx_iaload X 65 66 13 (by decide) rfl dX7_stepOff_65 rfl ?_
      refine gx_iload_n X 66 67 3 dX7_stepOff_66 rfl rfl rfl ?_
      refine gx_jn (fun (k : Int32 → Mm → Aa) => ∀ (x55 : Int32) (m56 : Mm), mm_G p l e rX7_stepOff s m args below meth c 8 D cA adr sM NM (mm_Qv D cA adr sM NM) m56 84 [(0, .ref (adr 0)), (1, .int a1), (2, .int x47)] [.int x55, .int (m54 13 x47.toNatClampNeg), .int x47, .ref (adr 13)] (k x55 m56)) ?_ (fun k_84 hk_84 => ?_)
      · intro x55 m56
        refine gx_iadd X 84 85 dX7_stepOff_84 rfl ?_
        refine gx_iastore X 85 86 13 (by decide) rfl dX7_stepOff_85 rfl (fun m57 => ?_)
        refine gx_iinc X 86 89 2 (1) (fun x58 => [(2, .int x58), (0, .ref (adr 0)), (1, .int a1)]) dX7_stepOff_86 rfl rfl ci_1 (by decide) (fun _ => rfl) (fun x58 => ?_)
        refine gx_goto X 89 2 dX7_stepOff_89 rfl ?_
        refine gx_sub [1, 2, 0] rfl ?_
        exact hr_2 x58 m57
      refine gx_jn (fun (k : Mm → Aa) => ∀ (m59 : Mm), mm_G p l e rX7_stepOff s m args below meth c 8 D cA adr sM NM (mm_Qv D cA adr sM NM) m59 83 [(0, .ref (adr 0)), (1, .int a1), (2, .int x47)] [.int (m54 13 x47.toNatClampNeg), .int x47, .ref (adr 13)] (k m59)) ?_ (fun k_83 hk_83 => ?_)
      · intro m59
        refine gx_iconst X 83 84 (0) dX7_stepOff_83 rfl ci_0 ?_
        exact hk_84 0 m59
      refine gx_if_eq X 67 83 70 dX7_stepOff_67 rfl rfl ?_ ?_
      · refine gx_sub [0, 1, 2] rfl ?_
        exact hk_83 m54
      refine gx_aload_n X 70 71 0 dX7_stepOff_70 rfl rfl rfl ?_
      refine gx_getR X 71 74 0 (by decide) rfl rfl fg_X7_62 dX7_stepOff_71 rfl ?_
      refine gx_iload_n X 74 75 2 dX7_stepOff_74 rfl rfl rfl ?_
      refine gx_iaload X 75 76 17 (by decide) rfl dX7_stepOff_75 rfl ?_
      refine gx_if_ne X 76 83 79 dX7_stepOff_76 rfl rfl ?_ ?_
      · refine gx_sub [0, 1, 2] rfl ?_
        exact hk_83 m54
      refine gx_iconst X 79 80 (1) dX7_stepOff_79 rfl ci_1 ?_
      refine gx_goto X 80 84 dX7_stepOff_80 rfl ?_
      refine gx_sub [0, 1, 2] rfl ?_
      exact hk_84 1 m54
    refine gx_jn (fun (k : Mm → Aa) => ∀ (m60 : Mm), mm_G p l e rX7_stepOff s m args below meth c 8 D cA adr sM NM (mm_Qv D cA adr sM NM) m60 57 [(0, .ref (adr 0)), (1, .int a1), (2, .int x47), (3, .int x51)] [.int x47, .ref (adr 17)] (k m60)) ?_ (fun k_57 hk_57 => ?_)
    · intro m60
      refine gx_iconst X 57 58 (0) dX7_stepOff_57 rfl ci_0 ?_
      exact hk_58 0 m60
    refine gx_if_eq X 42 57 45 dX7_stepOff_42 rfl rfl ?_ ?_
    · refine gx_sub [1, 2, 3, 0] rfl ?_
      exact hk_57 m50
    refine gx_aload_n X 45 46 1 dX7_stepOff_45 rfl rfl rfl ?_
    refine gx_iload_n X 46 47 3 dX7_stepOff_46 rfl rfl rfl ?_
    refine gx_calliV X 47 50 0 (rest := [.int x47, .ref (adr 17)]) (As := [.int x47]) (tX7_mustWait hJ x47 m50) (by decide) rfl rfl wc_X7_mustWait wl_X7_206 wi_X7_mustWait ws_X7_mustWait wn_X7 rfl hd_X7_mustWait ⟨Nat.le_of_ble_eq_true rfl, Nat.le_of_ble_eq_true rfl⟩ ⟨rfl, rfl⟩ rfl rfl (Nat.le_of_ble_eq_true rfl) dX7_stepOff_47 rfl (fun x61 m62 => ?_)
    refine gx_if_ne X 50 57 53 dX7_stepOff_50 rfl rfl ?_ ?_
    · refine gx_sub [1, 2, 3, 0] rfl ?_
      exact hk_57 m62
    refine gx_iconst X 53 54 (1) dX7_stepOff_53 rfl ci_1 ?_
    refine gx_goto X 54 58 dX7_stepOff_54 rfl ?_
    refine gx_sub [1, 2, 3, 0] rfl ?_
    exact hk_58 1 m62
  refine gx_jn (fun (k : Mm → Aa) => ∀ (m63 : Mm), mm_G p l e rX7_stepOff s m args below meth c 8 D cA adr sM NM (mm_Qv D cA adr sM NM) m63 34 [(0, .ref (adr 0)), (1, .int a1), (2, .int x47)] [] (k m63)) ?_ (fun k_34 hk_34 => ?_)
  · intro m63
    refine gx_iconst X 34 35 (0) dX7_stepOff_34 rfl ci_0 ?_
    exact hk_35 0 m63
  refine gx_icmp_ne X 17 34 20 dX7_stepOff_17 rfl rfl ?_ ?_
  · exact hk_34 m48
  refine gx_aload_n X 20 21 0 dX7_stepOff_20 rfl rfl rfl ?_
  refine gx_getR X 21 24 0 (by decide) rfl rfl fg_X7_35 dX7_stepOff_21 rfl ?_
  refine gx_iload_n X 24 25 2 dX7_stepOff_24 rfl rfl rfl ?_
  refine gx_iaload X 25 26 8 (by decide) rfl dX7_stepOff_25 rfl ?_
  refine gx_iconst X 26 27 (1) dX7_stepOff_26 rfl ci_1 ?_
  refine gx_icmp_ne X 27 34 30 dX7_stepOff_27 rfl rfl ?_ ?_
  · exact hk_34 m48
  refine gx_iconst X 30 31 (1) dX7_stepOff_30 rfl ci_1 ?_
  refine gx_goto X 31 35 dX7_stepOff_31 rfl ?_
  exact hk_35 1 m48
def fX7_start (a1 : Int32) (a2 : Int32) (μ : Mm) : Aa := mm_cl (fX7_paceOf a1 μ) (fun (x1 : Int32) (m2 : Mm) => mm_lt x1 (fun (x3 : Int32) => mm_ck 5 6 (mm_lt (fun (m4 : Mm) => mm_lt (fun (x5 : Int32) (m6 : Mm) => mm_lt x5 (fun (x7 : Int32) => mm_lt (fun (x8 : Int32) (m9 : Mm) => mm_lt (mm_wr m9 0 24 ((m6 0 24) - x8)) (fun (m10 : Mm) => mm_lt (fun (x11 : Int32) (m12 : Mm) => mm_ck a1 10 (mm_lt (mm_wr m12 11 a1.toNatClampNeg x11) (fun (m13 : Mm) => mm_ck a1 10 (mm_lt (fun (x14 : Int32) (m15 : Mm) => mm_ck a1 10 (mm_lt (mm_wr m15 14 a1.toNatClampNeg ((m13 14 a1.toNatClampNeg) + x14)) (fun (m16 : Mm) => mm_ck a1 10 (mm_lt (mm_wr m16 5 a1.toNatClampNeg 2) (fun (m17 : Mm) => mm_ck a1 10 (mm_lt (mm_wr m17 7 a1.toNatClampNeg 0) (fun (m18 : Mm) => mm_ck a1 10 (mm_lt (mm_wr m18 8 a1.toNatClampNeg 0) (fun (m19 : Mm) => some (0, m19)))))))))) (fun (k_163 : Int32 → Mm → Aa) => if x7 = 0 then (k_163 1 m13) else (k_163 0 m13)))))) (fun (k_145 : Int32 → Mm → Aa) => if x7 = 0 then (mm_nz 2 (mm_cl (fX7_most 1 (x3 / 2) m10) (fun (x20 : Int32) (m21 : Mm) => k_145 x20 m21))) else (k_145 x3 m10)))) (fun (k_120 : Int32 → Mm → Aa) => mm_lt (fun (m22 : Mm) => k_120 0 m22) (fun (k_119 : Mm → Aa) => if 0 ≤ (m6 0 27) then (k_119 m6) else (if x7 = 0 then (k_119 m6) else (k_120 1 m6)))))) (fun (k_96 : Int32 → Mm → Aa) => if 0 ≤ (m4 0 27) then (mm_cl (fX7_has (m4 0 27) a1 m4) (fun (x23 : Int32) (m24 : Mm) => k_96 x23 m24)) else (if (m4 0 24) ≤ 0 then (k_96 0 m4) else (k_96 1 m4)))) (fun (k_66 : Mm → Aa) => if (m2 2 (5 : Int32).toNatClampNeg) ≤ 0 then (k_66 m2) else (mm_nz x3 (mm_ck 5 6 (if ((((m2 0 23) + x3) - 1) / x3) ≤ (m2 2 (5 : Int32).toNatClampNeg) then (k_66 m2) else (mm_ck a1 10 (mm_lt (mm_wr m2 5 a1.toNatClampNeg 3) (fun (m25 : Mm) => mm_ck 5 6 (mm_ck a1 10 (mm_lt (mm_wr m25 10 a1.toNatClampNeg (a2 + (m25 2 (5 : Int32).toNatClampNeg))) (fun (m26 : Mm) => mm_ck a1 10 (mm_ck a1 10 (mm_lt (mm_wr m26 12 a1.toNatClampNeg ((m26 12 a1.toNatClampNeg) + 1)) (fun (m27 : Mm) => some (0, m27)))))))))))))))))
abbrev rX7_start : Room := { frames := 2, cells := 0, slots := 0, locals := 44 }
set_option maxRecDepth 100000 in
set_option maxHeartbeats 8000000 in
theorem tX7_start {l : Launch} {D : va_G} {cA : Nat → ClassId} {adr : Nat → Nat} (hJ : mm_J adr NM) (a1 : Int32) (a2 : Int32) (μ : Mm) : mm_Mv l D cA adr sM NM mm_SM yX7_start cX7_start 5 none rX7_start [.ref (adr 0), .int a1, .int a2] μ (fX7_start a1 a2 μ) := by
  refine mm_entryv hJ mm_okM (by decide) (Nat.le_of_ble_eq_true rfl) ⟨rfl, rfl⟩ (fun p e s m below meth c X hr => ?_)
  generalize ([.ref (adr 0), .int a1, .int a2] : List Value).toArray = args at X ⊢
  refine gx_lv (lv' := [(0, .ref (adr 0)), (1, .int a1), (2, .int a2)]) rfl ?_
  unfold fX7_start
  refine gx_aload_n X 0 1 0 dX7_start_0 rfl rfl rfl ?_
  refine gx_iload_n X 1 2 1 dX7_start_1 rfl rfl rfl ?_
  refine gx_calliV X 2 5 0 (rest := []) (As := [.int a1]) (tX7_paceOf hJ a1 μ) (by decide) rfl rfl wc_X7_paceOf wl_X7_140 wi_X7_paceOf ws_X7_paceOf wn_X7 rfl hd_X7_paceOf ⟨Nat.le_of_ble_eq_true rfl, Nat.le_of_ble_eq_true rfl⟩ ⟨rfl, rfl⟩ rfl rfl (Nat.le_of_ble_eq_true rfl) dX7_start_2 rfl (fun x1 m2 => ?_)
  refine gx_istore_n X 5 6 (fun x3 => [(3, .int x3), (0, .ref (adr 0)), (1, .int a1), (2, .int a2)]) dX7_start_5 rfl rfl (by decide) (fun _ => rfl) (fun x3 => ?_)
  refine gx_aload_n X 6 7 1 dX7_start_6 rfl rfl rfl ?_
  refine gx_getR X 7 10 0 (by decide) rfl rfl fg_X7_13 dX7_start_7 rfl ?_
  refine gx_iconst X 10 11 (5) dX7_start_10 rfl ci_5 ?_
  refine gx_iaload X 11 12 2 (by decide) rfl dX7_start_11 rfl ?_
  refine gx_jn (fun (k : Mm → Aa) => ∀ (m4 : Mm), mm_G p l e rX7_start s m args below meth c 5 D cA adr sM NM (mm_Qv D cA adr sM NM) m4 66 [(0, .ref (adr 0)), (1, .int a1), (3, .int x3)] [] (k m4)) ?_ (fun k_66 hk_66 => ?_)
  · intro m4
    refine gx_aload_n X 66 67 0 dX7_start_66 rfl rfl rfl ?_
    refine gx_getI X 67 70 0 (by decide) rfl rfl fg_X7_68 dX7_start_67 rfl ?_
    refine gx_jn (fun (k : Int32 → Mm → Aa) => ∀ (x5 : Int32) (m6 : Mm), mm_G p l e rX7_start s m args below meth c 5 D cA adr sM NM (mm_Qv D cA adr sM NM) m6 96 [(0, .ref (adr 0)), (1, .int a1), (3, .int x3)] [.int x5] (k x5 m6)) ?_ (fun k_96 hk_96 => ?_)
    · intro x5 m6
      refine gx_istore X 96 98 (fun x7 => [(4, .int x7), (0, .ref (adr 0)), (1, .int a1), (3, .int x3)]) dX7_start_96 rfl (by decide) (fun _ => rfl) (fun x7 => ?_)
      refine gx_aload_n X 98 99 1 dX7_start_98 rfl rfl rfl ?_
      refine gx_dup X 99 100 dX7_start_99 rfl rfl ?_
      refine gx_getI X 100 103 0 (by decide) rfl rfl fg_X7_194 dX7_start_100 rfl ?_
      refine gx_aload_n X 103 104 1 dX7_start_103 rfl rfl rfl ?_
      refine gx_getI X 104 107 0 (by decide) rfl rfl fg_X7_68 dX7_start_104 rfl ?_
      refine gx_jn (fun (k : Int32 → Mm → Aa) => ∀ (x8 : Int32) (m9 : Mm), mm_G p l e rX7_start s m args below meth c 5 D cA adr sM NM (mm_Qv D cA adr sM NM) m9 120 [(0, .ref (adr 0)), (1, .int a1), (3, .int x3), (4, .int x7)] [.int x8, .int (m6 0 24), .ref (adr 0)] (k x8 m9)) ?_ (fun k_120 hk_120 => ?_)
      · intro x8 m9
        refine gx_isub X 120 121 dX7_start_120 rfl ?_
        refine gx_putI X 121 124 0 (by decide) rfl rfl fp_X7_194 dX7_start_121 rfl (fun m10 => ?_)
        refine gx_aload_n X 124 125 0 dX7_start_124 rfl rfl rfl ?_
        refine gx_getR X 125 128 0 (by decide) rfl rfl fg_X7_44 dX7_start_125 rfl ?_
        refine gx_iload_n X 128 129 1 dX7_start_128 rfl rfl rfl ?_
        refine gx_iload X 129 131 3 dX7_start_129 rfl rfl ?_
        refine gx_jn (fun (k : Int32 → Mm → Aa) => ∀ (x11 : Int32) (m12 : Mm), mm_G p l e rX7_start s m args below meth c 5 D cA adr sM NM (mm_Qv D cA adr sM NM) m12 145 [(0, .ref (adr 0)), (1, .int a1), (4, .int x7)] [.int x11, .int a1, .ref (adr 11)] (k x11 m12)) ?_ (fun k_145 hk_145 => ?_)
        · intro x11 m12
          refine gx_iastore X 145 146 11 (by decide) rfl dX7_start_145 rfl (fun m13 => ?_)
          refine gx_aload_n X 146 147 0 dX7_start_146 rfl rfl rfl ?_
          refine gx_getR X 147 150 0 (by decide) rfl rfl fg_X7_53 dX7_start_147 rfl ?_
          refine gx_iload_n X 150 151 1 dX7_start_150 rfl rfl rfl ?_
          refine gx_dup2 X 151 152 dX7_start_151 rfl rfl rfl ?_
          refine gx_iaload X 152 153 14 (by decide) rfl dX7_start_152 rfl ?_
          refine gx_iload X 153 155 2 dX7_start_153 rfl rfl ?_
          refine gx_jn (fun (k : Int32 → Mm → Aa) => ∀ (x14 : Int32) (m15 : Mm), mm_G p l e rX7_start s m args below meth c 5 D cA adr sM NM (mm_Qv D cA adr sM NM) m15 163 [(0, .ref (adr 0)), (1, .int a1)] [.int x14, .int (m13 14 a1.toNatClampNeg), .int a1, .ref (adr 14)] (k x14 m15)) ?_ (fun k_163 hk_163 => ?_)
          · intro x14 m15
            refine gx_iadd X 163 164 dX7_start_163 rfl ?_
            refine gx_iastore X 164 165 14 (by decide) rfl dX7_start_164 rfl (fun m16 => ?_)
            refine gx_aload_n X 165 166 0 dX7_start_165 rfl rfl rfl ?_
            refine gx_getR X 166 169 0 (by decide) rfl rfl fg_X7_26 dX7_start_166 rfl ?_
            refine gx_iload_n X 169 170 1 dX7_start_169 rfl rfl rfl ?_
            refine gx_iconst X 170 171 (2) dX7_start_170 rfl ci_2 ?_
            refine gx_iastore X 171 172 5 (by decide) rfl dX7_start_171 rfl (fun m17 => ?_)
            refine gx_aload_n X 172 173 0 dX7_start_172 rfl rfl rfl ?_
            refine gx_getR X 173 176 0 (by decide) rfl rfl fg_X7_32 dX7_start_173 rfl ?_
            refine gx_iload_n X 176 177 1 dX7_start_176 rfl rfl rfl ?_
            refine gx_iconst X 177 178 (0) dX7_start_177 rfl ci_0 ?_
            refine gx_iastore X 178 179 7 (by decide) rfl dX7_start_178 rfl (fun m18 => ?_)
            refine gx_aload_n X 179 180 0 dX7_start_179 rfl rfl rfl ?_
            refine gx_getR X 180 183 0 (by decide) rfl rfl fg_X7_35 dX7_start_180 rfl ?_
            refine gx_iload_n X 183 184 1 dX7_start_183 rfl rfl rfl ?_
            refine gx_iconst X 184 185 (0) dX7_start_184 rfl ci_0 ?_
            refine gx_iastore X 185 186 8 (by decide) rfl dX7_start_185 rfl (fun m19 => ?_)
            exact gx_vret X 186 hr dX7_start_186
          refine gx_if_eq X 155 162 158 dX7_start_155 rfl rfl ?_ ?_
          · refine gx_iconst X 162 163 (1) dX7_start_162 rfl ci_1 ?_
            refine gx_sub [0, 1] rfl ?_
            exact hk_163 1 m13
          refine gx_iconst X 158 159 (0) dX7_start_158 rfl ci_0 ?_
          refine gx_goto X 159 163 dX7_start_159 rfl ?_
          refine gx_sub [0, 1] rfl ?_
          exact hk_163 0 m13
        refine gx_if_eq X 131 138 134 dX7_start_131 rfl rfl ?_ ?_
        · refine gx_iconst X 138 139 (1) dX7_start_138 rfl ci_1 ?_
          refine gx_iload_n X 139 140 2 dX7_start_139 rfl rfl rfl ?_
          refine gx_iconst X 140 141 (2) dX7_start_140 rfl ci_2 ?_
          refine gx_idiv X 141 142 dX7_start_141 rfl ?_
          refine gx_calliS X 142 145 (rest := [.int a1, .ref (adr 11)]) (As := [.int 1, .int (x3 / 2)]) (tX7_most hJ 1 (x3 / 2) m10) wc_X7_most wl_X7_132 wt_X7_most wn_X7 hd_X7_most ⟨Nat.le_of_ble_eq_true rfl, Nat.le_of_ble_eq_true rfl⟩ ⟨rfl, rfl⟩ rfl rfl (Nat.le_of_ble_eq_true rfl) dX7_start_142 rfl (fun x20 m21 => ?_)
          refine gx_sub [0, 1, 3] rfl ?_
          exact hk_145 x20 m21
        refine gx_iload_n X 134 135 2 dX7_start_134 rfl rfl rfl ?_
        refine gx_goto X 135 145 dX7_start_135 rfl ?_
        refine gx_sub [0, 1, 3] rfl ?_
        exact hk_145 x3 m10
      refine gx_jn (fun (k : Mm → Aa) => ∀ (m22 : Mm), mm_G p l e rX7_start s m args below meth c 5 D cA adr sM NM (mm_Qv D cA adr sM NM) m22 119 [(0, .ref (adr 0)), (1, .int a1), (3, .int x3), (4, .int x7)] [.int (m6 0 24), .ref (adr 0)] (k m22)) ?_ (fun k_119 hk_119 => ?_)
      · intro m22
        refine gx_iconst X 119 120 (0) dX7_start_119 rfl ci_0 ?_
        exact hk_120 0 m22
      refine gx_if_ge X 107 119 110 dX7_start_107 rfl rfl ?_ ?_
      · refine gx_sub [1, 2, 3, 0] rfl ?_
        exact hk_119 m6
      refine gx_iload X 110 112 0 dX7_start_110 rfl rfl ?_
      refine gx_if_eq X 112 119 115 dX7_start_112 rfl rfl ?_ ?_
      · refine gx_sub [1, 2, 3, 0] rfl ?_
        exact hk_119 m6
      refine gx_iconst X 115 116 (1) dX7_start_115 rfl ci_1 ?_
      refine gx_goto X 116 120 dX7_start_116 rfl ?_
      refine gx_sub [1, 2, 3, 0] rfl ?_
      exact hk_120 1 m6
    refine gx_if_ge X 70 88 73 dX7_start_70 rfl rfl ?_ ?_
    · refine gx_aload_n X 88 89 0 dX7_start_88 rfl rfl rfl ?_
      refine gx_getI X 89 92 0 (by decide) rfl rfl fg_X7_68 dX7_start_89 rfl ?_
      refine gx_iload_n X 92 93 1 dX7_start_92 rfl rfl rfl ?_
      refine gx_calliS X 93 96 (rest := []) (As := [.int (m4 0 27), .int a1]) (tX7_has hJ (m4 0 27) a1 m4) wc_X7_has wl_X7_221 wt_X7_has wn_X7 hd_X7_has ⟨Nat.le_of_ble_eq_true rfl, Nat.le_of_ble_eq_true rfl⟩ ⟨rfl, rfl⟩ rfl rfl (Nat.le_of_ble_eq_true rfl) dX7_start_93 rfl (fun x23 m24 => ?_)
      exact hk_96 x23 m24
    refine gx_aload_n X 73 74 0 dX7_start_73 rfl rfl rfl ?_
    refine gx_getI X 74 77 0 (by decide) rfl rfl fg_X7_194 dX7_start_74 rfl ?_
    refine gx_if_le X 77 84 80 dX7_start_77 rfl rfl ?_ ?_
    · refine gx_iconst X 84 85 (0) dX7_start_84 rfl ci_0 ?_
      refine gx_goto X 85 96 dX7_start_85 rfl ?_
      exact hk_96 0 m4
    refine gx_iconst X 80 81 (1) dX7_start_80 rfl ci_1 ?_
    refine gx_goto X 81 96 dX7_start_81 rfl ?_
    exact hk_96 1 m4
  refine gx_if_le X 12 66 15 dX7_start_12 rfl rfl ?_ ?_
  · refine gx_sub [1, 2, 0] rfl ?_
    exact hk_66 m2
  refine gx_aload_n X 15 16 1 dX7_start_15 rfl rfl rfl ?_
  refine gx_getI X 16 19 0 (by decide) rfl rfl fg_X7_191 dX7_start_16 rfl ?_
  refine gx_iload_n X 19 20 0 dX7_start_19 rfl rfl rfl ?_
  refine gx_iadd X 20 21 dX7_start_20 rfl ?_
  refine gx_iconst X 21 22 (1) dX7_start_21 rfl ci_1 ?_
  refine gx_isub X 22 23 dX7_start_22 rfl ?_
  refine gx_iload_n X 23 24 0 dX7_start_23 rfl rfl rfl ?_
  refine gx_idiv X 24 25 dX7_start_24 rfl ?_
  refine gx_aload_n X 25 26 1 dX7_start_25 rfl rfl rfl ?_
  refine gx_getR X 26 29 0 (by decide) rfl rfl fg_X7_13 dX7_start_26 rfl ?_
  refine gx_iconst X 29 30 (5) dX7_start_29 rfl ci_5 ?_
  refine gx_iaload X 30 31 2 (by decide) rfl dX7_start_30 rfl ?_
  refine gx_icmp_le X 31 66 34 dX7_start_31 rfl rfl ?_ ?_
  · refine gx_sub [1, 2, 0] rfl ?_
    exact hk_66 m2
  refine gx_aload_n X 34 35 1 dX7_start_34 rfl rfl rfl ?_
  refine gx_getR X 35 38 0 (by decide) rfl rfl fg_X7_26 dX7_start_35 rfl ?_
  refine gx_iload_n X 38 39 2 dX7_start_38 rfl rfl rfl ?_
  refine gx_iconst X 39 40 (3) dX7_start_39 rfl ci_3 ?_
  refine gx_iastore X 40 41 5 (by decide) rfl dX7_start_40 rfl (fun m25 => ?_)
  refine gx_aload_n X 41 42 1 dX7_start_41 rfl rfl rfl ?_
  refine gx_getR X 42 45 0 (by decide) rfl rfl fg_X7_41 dX7_start_42 rfl ?_
  refine gx_iload_n X 45 46 2 dX7_start_45 rfl rfl rfl ?_
  refine gx_iload_n X 46 47 3 dX7_start_46 rfl rfl rfl ?_
  refine gx_aload_n X 47 48 1 dX7_start_47 rfl rfl rfl ?_
  refine gx_getR X 48 51 0 (by decide) rfl rfl fg_X7_13 dX7_start_48 rfl ?_
  refine gx_iconst X 51 52 (5) dX7_start_51 rfl ci_5 ?_
  refine gx_iaload X 52 53 2 (by decide) rfl dX7_start_52 rfl ?_
  refine gx_iadd X 53 54 dX7_start_53 rfl ?_
  refine gx_iastore X 54 55 10 (by decide) rfl dX7_start_54 rfl (fun m26 => ?_)
  refine gx_aload_n X 55 56 1 dX7_start_55 rfl rfl rfl ?_
  refine gx_getR X 56 59 0 (by decide) rfl rfl fg_X7_47 dX7_start_56 rfl ?_
  refine gx_iload_n X 59 60 2 dX7_start_59 rfl rfl rfl ?_
  refine gx_dup2 X 60 61 dX7_start_60 rfl rfl rfl ?_
  refine gx_iaload X 61 62 12 (by decide) rfl dX7_start_61 rfl ?_
  refine gx_iconst X 62 63 (1) dX7_start_62 rfl ci_1 ?_
  refine gx_iadd X 63 64 dX7_start_63 rfl ?_
  refine gx_iastore X 64 65 12 (by decide) rfl dX7_start_64 rfl (fun m27 => ?_)
  exact gx_vret X 65 hr dX7_start_65
def fX7_startAll_L44 (a1 : Int32) (k_140 : Mm → Aa) (rec_44 : Int32 → Mm → Aa) (x5 : Int32) (m6 : Mm) : Aa := if (m6 0 1) ≤ x5 then (k_140 m6) else (mm_ck x5 10 (mm_lt (fun (x7 : Int32) (m8 : Mm) => mm_lt x7 (fun (x9 : Int32) => mm_ck x5 10 (mm_lt (fun (x10 : Int32) (m11 : Mm) => mm_lt x10 (fun (x12 : Int32) => mm_lt (fun (m13 : Mm) => mm_lt (x5 + 1) (fun (x14 : Int32) => rec_44 x14 m13)) (fun (k_134 : Mm → Aa) => mm_lt (fun (m15 : Mm) => mm_cl (fX7_start x5 a1 m15) (fun (x16 : Int32) (m17 : Mm) => k_134 m17)) (fun (k_128 : Mm → Aa) => if x9 = 0 then (if x12 = 0 then (k_134 m11) else (k_128 m11)) else (k_128 m11))))) (fun (k_117 : Int32 → Mm → Aa) => mm_lt (fun (m18 : Mm) => k_117 0 m18) (fun (k_116 : Mm → Aa) => if (m8 5 x5.toNatClampNeg) = 1 then (mm_ck x5 10 (mm_ck ((7 * x5) + 5) 70 (if (a1 - (m8 10 x5.toNatClampNeg)) < (m8 1 ((7 * x5) + 5).toNatClampNeg) then (k_116 m8) else (k_117 1 m8)))) else (k_116 m8)))))) (fun (k_79 : Int32 → Mm → Aa) => mm_lt (fun (m19 : Mm) => k_79 0 m19) (fun (k_78 : Mm → Aa) => if (m6 5 x5.toNatClampNeg) = 0 then (mm_ck (7 * x5) 70 (if (m6 1 (7 * x5).toNatClampNeg) = a1 then (k_79 1 m6) else (k_78 m6))) else (k_78 m6)))))
def fX7_startAll_L2 (a1 : Int32) (k_42 : Mm → Aa) (rec_2 : Int32 → Mm → Aa) (x20 : Int32) (m21 : Mm) : Aa := if (m21 0 1) ≤ x20 then (k_42 m21) else (mm_ck x20 10 (mm_lt (fun (m22 : Mm) => mm_lt (x20 + 1) (fun (x23 : Int32) => rec_2 x23 m22)) (fun (k_36 : Mm → Aa) => if (m21 5 x20.toNatClampNeg) = 3 then (mm_ck x20 10 (if (m21 10 x20.toNatClampNeg) = a1 then (mm_cl (fX7_comeOver x20 a1 m21) (fun (x24 : Int32) (m25 : Mm) => k_36 m25)) else (k_36 m21))) else (k_36 m21))))
def fX7_startAll (a1 : Int32) (μ : Mm) : Aa := mm_lt 0 (fun (x1 : Int32) => mm_lt (fun (m2 : Mm) => mm_lt 0 (fun (x3 : Int32) => mm_lt (fun (m4 : Mm) => some (0, m4)) (fun (k_140 : Mm → Aa) => mm_lk (fun (_ : Int32) (_ : Mm) => (none : Aa)) (fX7_startAll_L44 a1 k_140) mm_fu x3 m2))) (fun (k_42 : Mm → Aa) => mm_lk (fun (_ : Int32) (_ : Mm) => (none : Aa)) (fX7_startAll_L2 a1 k_42) mm_fu x1 μ))
abbrev rX7_startAll : Room := { frames := 3, cells := 0, slots := 0, locals := 68 }
set_option maxRecDepth 100000 in
set_option maxHeartbeats 8000000 in
theorem tX7_startAll {l : Launch} {D : va_G} {cA : Nat → ClassId} {adr : Nat → Nat} (hJ : mm_J adr NM) (a1 : Int32) (μ : Mm) : mm_Mv l D cA adr sM NM mm_SM yX7_startAll cX7_startAll 5 none rX7_startAll [.ref (adr 0), .int a1] μ (fX7_startAll a1 μ) := by
  refine mm_entryv hJ mm_okM (by decide) (Nat.le_of_ble_eq_true rfl) ⟨rfl, rfl⟩ (fun p e s m below meth c X hr => ?_)
  generalize ([.ref (adr 0), .int a1] : List Value).toArray = args at X ⊢
  refine gx_lv (lv' := [(0, .ref (adr 0)), (1, .int a1)]) rfl ?_
  unfold fX7_startAll
  refine gx_iconst X 0 1 (0) dX7_startAll_0 rfl ci_0 ?_
  refine gx_istore_n X 1 2 (fun x1 => [(2, .int x1), (0, .ref (adr 0)), (1, .int a1)]) dX7_startAll_1 rfl rfl (by decide) (fun _ => rfl) (fun x1 => ?_)
  refine gx_jn (fun (k : Mm → Aa) => ∀ (m2 : Mm), mm_G p l e rX7_startAll s m args below meth c 5 D cA adr sM NM (mm_Qv D cA adr sM NM) m2 42 [(0, .ref (adr 0)), (1, .int a1)] [] (k m2)) ?_ (fun k_42 hk_42 => ?_)
  · intro m2
    refine gx_iconst X 42 43 (0) dX7_startAll_42 rfl ci_0 ?_
    refine gx_istore_n X 43 44 (fun x3 => [(2, .int x3), (0, .ref (adr 0)), (1, .int a1)]) dX7_startAll_43 rfl rfl (by decide) (fun _ => rfl) (fun x3 => ?_)
    refine gx_jn (fun (k : Mm → Aa) => ∀ (m4 : Mm), mm_G p l e rX7_startAll s m args below meth c 5 D cA adr sM NM (mm_Qv D cA adr sM NM) m4 140 [] [] (k m4)) ?_ (fun k_140 hk_140 => ?_)
    · intro m4
      exact gx_vret X 140 hr dX7_startAll_140
    refine gx_sub [1, 2, 0] rfl ?_
    refine mm_lk_ind (fun (rec : Int32 → Mm → Aa) => ∀ (x5 : Int32) (m6 : Mm), mm_G p l e rX7_startAll s m args below meth c 5 D cA adr sM NM (mm_Qv D cA adr sM NM) m6 44 [(0, .ref (adr 0)), (1, .int a1), (2, .int x5)] [] (rec x5 m6)) (fun _ _ => gx_none) (fun rec_44 hr_44 x5 m6 => ?_) mm_fu x3 m2
    unfold fX7_startAll_L44
    refine gx_iload_n X 44 45 2 dX7_startAll_44 rfl rfl rfl ?_
    refine gx_aload_n X 45 46 0 dX7_startAll_45 rfl rfl rfl ?_
    refine gx_getI X 46 49 0 (by decide) rfl rfl fg_X7_98 dX7_startAll_46 rfl ?_
    refine gx_icmp_ge X 49 140 52 dX7_startAll_49 rfl rfl ?_ ?_
    · refine gx_sub [] rfl ?_
      exact hk_140 m6
    refine gx_aload_n X 52 53 0 dX7_startAll_52 rfl rfl rfl ?_
    refine gx_getR X 53 56 0 (by decide) rfl rfl fg_X7_26 dX7_startAll_53 rfl ?_
    refine gx_iload_n X 56 57 2 dX7_startAll_56 rfl rfl rfl ?_
    refine gx_iaload X 57 58 5 (by decide) rfl dX7_startAll_57 rfl ?_
    refine gx_jn (fun (k : Int32 → Mm → Aa) => ∀ (x7 : Int32) (m8 : Mm), mm_G p l e rX7_startAll s m args below meth c 5 D cA adr sM NM (mm_Qv D cA adr sM NM) m8 79 [(0, .ref (adr 0)), (1, .int a1), (2, .int x5)] [.int x7] (k x7 m8)) ?_ (fun k_79 hk_79 => ?_)
    · intro x7 m8
      refine gx_istore_n X 79 80 (fun x9 => [(3, .int x9), (0, .ref (adr 0)), (1, .int a1), (2, .int x5)]) dX7_startAll_79 rfl rfl (by decide) (fun _ => rfl) (fun x9 => ?_)
      refine gx_aload_n X 80 81 1 dX7_startAll_80 rfl rfl rfl ?_
      refine gx_getR X 81 84 0 (by decide) rfl rfl fg_X7_26 dX7_startAll_81 rfl ?_
      refine gx_iload_n X 84 85 3 dX7_startAll_84 rfl rfl rfl ?_
      refine gx_iaload X 85 86 5 (by decide) rfl dX7_startAll_85 rfl ?_
      refine gx_iconst X 86 87 (1) dX7_startAll_86 rfl ci_1 ?_
      refine gx_jn (fun (k : Int32 → Mm → Aa) => ∀ (x10 : Int32) (m11 : Mm), mm_G p l e rX7_startAll s m args below meth c 5 D cA adr sM NM (mm_Qv D cA adr sM NM) m11 117 [(0, .ref (adr 0)), (1, .int a1), (2, .int x5), (3, .int x9)] [.int x10] (k x10 m11)) ?_ (fun k_117 hk_117 => ?_)
      · intro x10 m11
        refine gx_istore X 117 119 (fun x12 => [(4, .int x12), (0, .ref (adr 0)), (1, .int a1), (2, .int x5), (3, .int x9)]) dX7_startAll_117 rfl (by decide) (fun _ => rfl) (fun x12 => ?_)
        refine gx_iload_n X 119 120 4 dX7_startAll_119 rfl rfl rfl ?_
        refine gx_jn (fun (k : Mm → Aa) => ∀ (m13 : Mm), mm_G p l e rX7_startAll s m args below meth c 5 D cA adr sM NM (mm_Qv D cA adr sM NM) m13 134 [(0, .ref (adr 0)), (1, .int a1), (2, .int x5)] [] (k m13)) ?_ (fun k_134 hk_134 => ?_)
        · intro m13
          refine gx_iinc X 134 137 2 (1) (fun x14 => [(2, .int x14), (0, .ref (adr 0)), (1, .int a1)]) dX7_startAll_134 rfl rfl ci_1 (by decide) (fun _ => rfl) (fun x14 => ?_)
          refine gx_goto X 137 44 dX7_startAll_137 rfl ?_
          refine gx_sub [1, 2, 0] rfl ?_
          exact hr_44 x14 m13
        refine gx_jn (fun (k : Mm → Aa) => ∀ (m15 : Mm), mm_G p l e rX7_startAll s m args below meth c 5 D cA adr sM NM (mm_Qv D cA adr sM NM) m15 128 [(0, .ref (adr 0)), (1, .int a1), (2, .int x5)] [] (k m15)) ?_ (fun k_128 hk_128 => ?_)
        · intro m15
          refine gx_aload_n X 128 129 0 dX7_startAll_128 rfl rfl rfl ?_
          refine gx_iload_n X 129 130 2 dX7_startAll_129 rfl rfl rfl ?_
          refine gx_iload_n X 130 131 1 dX7_startAll_130 rfl rfl rfl ?_
          refine gx_callvV X 131 134 0 (rest := []) (As := [.int x5, .int a1]) (tX7_start hJ x5 a1 m15) (by decide) rfl rfl wc_X7_start wl_X7_225 wi_X7_start ws_X7_start wn_X7 rfl hd_X7_start ⟨Nat.le_of_ble_eq_true rfl, Nat.le_of_ble_eq_true rfl⟩ ⟨rfl, rfl⟩ rfl rfl (Nat.le_of_ble_eq_true rfl) dX7_startAll_131 rfl (fun x16 m17 => ?_)
          exact hk_134 m17
        refine gx_if_ne X 120 128 123 dX7_startAll_120 rfl rfl ?_ ?_
        · refine gx_sub [1, 2, 3] rfl ?_
          exact hk_128 m11
        refine gx_iload X 123 125 0 dX7_startAll_123 rfl rfl ?_
        refine gx_if_eq X 125 134 128 dX7_startAll_125 rfl rfl ?_ ?_
        · refine gx_sub [1, 2, 3] rfl ?_
          exact hk_134 m11
        refine gx_sub [1, 2, 3] rfl ?_
        exact hk_128 m11
      refine gx_jn (fun (k : Mm → Aa) => ∀ (m18 : Mm), mm_G p l e rX7_startAll s m args below meth c 5 D cA adr sM NM (mm_Qv D cA adr sM NM) m18 116 [(0, .ref (adr 0)), (1, .int a1), (2, .int x5), (3, .int x9)] [] (k m18)) ?_ (fun k_116 hk_116 => ?_)
      · intro m18
        refine gx_iconst X 116 117 (0) dX7_startAll_116 rfl ci_0 ?_
        exact hk_117 0 m18
      refine gx_icmp_ne X 87 116 90 dX7_startAll_87 rfl rfl ?_ ?_
      · refine gx_sub [1, 2, 3, 0] rfl ?_
        exact hk_116 m8
      refine gx_iload_n X 90 91 2 dX7_startAll_90 rfl rfl rfl ?_
      refine gx_aload_n X 91 92 1 dX7_startAll_91 rfl rfl rfl ?_
      refine gx_getR X 92 95 0 (by decide) rfl rfl fg_X7_41 dX7_startAll_92 rfl ?_
      refine gx_iload_n X 95 96 3 dX7_startAll_95 rfl rfl rfl ?_
      refine gx_iaload X 96 97 10 (by decide) rfl dX7_startAll_96 rfl ?_
      refine gx_isub X 97 98 dX7_startAll_97 rfl ?_
      refine gx_aload_n X 98 99 1 dX7_startAll_98 rfl rfl rfl ?_
      refine gx_getR X 99 102 0 (by decide) rfl rfl fg_X7_7 dX7_startAll_99 rfl ?_
      refine gx_bipush X 102 104 (7) dX7_startAll_102 rfl cb_7 ?_
      refine gx_iload_n X 104 105 3 dX7_startAll_104 rfl rfl rfl ?_
      refine gx_imul X 105 106 dX7_startAll_105 rfl ?_
      refine gx_iconst X 106 107 (5) dX7_startAll_106 rfl ci_5 ?_
      refine gx_iadd X 107 108 dX7_startAll_107 rfl ?_
      refine gx_iaload X 108 109 1 (by decide) rfl dX7_startAll_108 rfl ?_
      refine gx_icmp_lt X 109 116 112 dX7_startAll_109 rfl rfl ?_ ?_
      · refine gx_sub [1, 2, 3, 0] rfl ?_
        exact hk_116 m8
      refine gx_iconst X 112 113 (1) dX7_startAll_112 rfl ci_1 ?_
      refine gx_goto X 113 117 dX7_startAll_113 rfl ?_
      refine gx_sub [1, 2, 3, 0] rfl ?_
      exact hk_117 1 m8
    refine gx_jn (fun (k : Mm → Aa) => ∀ (m19 : Mm), mm_G p l e rX7_startAll s m args below meth c 5 D cA adr sM NM (mm_Qv D cA adr sM NM) m19 78 [(0, .ref (adr 0)), (1, .int a1), (2, .int x5)] [] (k m19)) ?_ (fun k_78 hk_78 => ?_)
    · intro m19
      refine gx_iconst X 78 79 (0) dX7_startAll_78 rfl ci_0 ?_
      exact hk_79 0 m19
    refine gx_if_ne X 58 78 61 dX7_startAll_58 rfl rfl ?_ ?_
    · exact hk_78 m6
    refine gx_aload_n X 61 62 0 dX7_startAll_61 rfl rfl rfl ?_
    refine gx_getR X 62 65 0 (by decide) rfl rfl fg_X7_7 dX7_startAll_62 rfl ?_
    refine gx_bipush X 65 67 (7) dX7_startAll_65 rfl cb_7 ?_
    refine gx_iload_n X 67 68 2 dX7_startAll_67 rfl rfl rfl ?_
    refine gx_imul X 68 69 dX7_startAll_68 rfl ?_
    refine gx_iaload X 69 70 1 (by decide) rfl dX7_startAll_69 rfl ?_
    refine gx_iload_n X 70 71 1 dX7_startAll_70 rfl rfl rfl ?_
    refine gx_icmp_ne X 71 78 74 dX7_startAll_71 rfl rfl ?_ ?_
    · exact hk_78 m6
    refine gx_iconst X 74 75 (1) dX7_startAll_74 rfl ci_1 ?_
    refine gx_goto X 75 79 dX7_startAll_75 rfl ?_
    exact hk_79 1 m6
  refine gx_sub [1, 2, 0] rfl ?_
  refine mm_lk_ind (fun (rec : Int32 → Mm → Aa) => ∀ (x20 : Int32) (m21 : Mm), mm_G p l e rX7_startAll s m args below meth c 5 D cA adr sM NM (mm_Qv D cA adr sM NM) m21 2 [(0, .ref (adr 0)), (1, .int a1), (2, .int x20)] [] (rec x20 m21)) (fun _ _ => gx_none) (fun rec_2 hr_2 x20 m21 => ?_) mm_fu x1 μ
  unfold fX7_startAll_L2
  refine gx_iload_n X 2 3 2 dX7_startAll_2 rfl rfl rfl ?_
  refine gx_aload_n X 3 4 0 dX7_startAll_3 rfl rfl rfl ?_
  refine gx_getI X 4 7 0 (by decide) rfl rfl fg_X7_98 dX7_startAll_4 rfl ?_
  refine gx_icmp_ge X 7 42 10 dX7_startAll_7 rfl rfl ?_ ?_
  · refine gx_sub [0, 1] rfl ?_
    exact hk_42 m21
  refine gx_aload_n X 10 11 0 dX7_startAll_10 rfl rfl rfl ?_
  refine gx_getR X 11 14 0 (by decide) rfl rfl fg_X7_26 dX7_startAll_11 rfl ?_
  refine gx_iload_n X 14 15 2 dX7_startAll_14 rfl rfl rfl ?_
  refine gx_iaload X 15 16 5 (by decide) rfl dX7_startAll_15 rfl ?_
  refine gx_iconst X 16 17 (3) dX7_startAll_16 rfl ci_3 ?_
  refine gx_jn (fun (k : Mm → Aa) => ∀ (m22 : Mm), mm_G p l e rX7_startAll s m args below meth c 5 D cA adr sM NM (mm_Qv D cA adr sM NM) m22 36 [(0, .ref (adr 0)), (1, .int a1), (2, .int x20)] [] (k m22)) ?_ (fun k_36 hk_36 => ?_)
  · intro m22
    refine gx_iinc X 36 39 2 (1) (fun x23 => [(2, .int x23), (0, .ref (adr 0)), (1, .int a1)]) dX7_startAll_36 rfl rfl ci_1 (by decide) (fun _ => rfl) (fun x23 => ?_)
    refine gx_goto X 39 2 dX7_startAll_39 rfl ?_
    refine gx_sub [1, 2, 0] rfl ?_
    exact hr_2 x23 m22
  refine gx_icmp_ne X 17 36 20 dX7_startAll_17 rfl rfl ?_ ?_
  · exact hk_36 m21
  refine gx_aload_n X 20 21 0 dX7_startAll_20 rfl rfl rfl ?_
  refine gx_getR X 21 24 0 (by decide) rfl rfl fg_X7_41 dX7_startAll_21 rfl ?_
  refine gx_iload_n X 24 25 2 dX7_startAll_24 rfl rfl rfl ?_
  refine gx_iaload X 25 26 10 (by decide) rfl dX7_startAll_25 rfl ?_
  refine gx_iload_n X 26 27 1 dX7_startAll_26 rfl rfl rfl ?_
  refine gx_icmp_ne X 27 36 30 dX7_startAll_27 rfl rfl ?_ ?_
  · exact hk_36 m21
  refine gx_aload_n X 30 31 0 dX7_startAll_30 rfl rfl rfl ?_
  refine gx_iload_n X 31 32 2 dX7_startAll_31 rfl rfl rfl ?_
  refine gx_iload_n X 32 33 1 dX7_startAll_32 rfl rfl rfl ?_
  refine gx_callvV X 33 36 0 (rest := []) (As := [.int x20, .int a1]) (tX7_comeOver hJ x20 a1 m21) (by decide) rfl rfl wc_X7_comeOver wl_X7_213 wi_X7_comeOver ws_X7_comeOver wn_X7 rfl hd_X7_comeOver ⟨Nat.le_of_ble_eq_true rfl, Nat.le_of_ble_eq_true rfl⟩ ⟨rfl, rfl⟩ rfl rfl (Nat.le_of_ble_eq_true rfl) dX7_startAll_33 rfl (fun x24 m25 => ?_)
  exact hk_36 m25
def fX7_goTo_L2 (a1 : Int32) (k_58 : Mm → Aa) (rec_2 : Int32 → Mm → Aa) (x3 : Int32) (m4 : Mm) : Aa := if a1 < x3 then (k_58 m4) else (mm_lt (fun (m5 : Mm) => mm_cl (fX7_goOn m5) (fun (x6 : Int32) (m7 : Mm) => mm_cl (fX7_stepOff x3 m7) (fun (x8 : Int32) (m9 : Mm) => mm_cl (fX7_startAll x3 m9) (fun (x10 : Int32) (m11 : Mm) => mm_lt (x3 + 1) (fun (x12 : Int32) => rec_2 x12 m11))))) (fun (k_38 : Mm → Aa) => if x3 ≤ 0 then (k_38 m4) else (mm_nz 240 (if (x3 - x3 / 240 * 240) = 0 then (mm_ck 3 6 (mm_cl (fX7_most 1 ((m4 0 23) - (m4 2 (3 : Int32).toNatClampNeg)) m4) (fun (x13 : Int32) (m14 : Mm) => mm_lt (mm_wr m14 0 23 x13) (fun (m15 : Mm) => k_38 m15)))) else (k_38 m4)))))
def fX7_goTo (a1 : Int32) (μ : Mm) : Aa := mm_lt 0 (fun (x1 : Int32) => mm_lt (fun (m2 : Mm) => some (0, m2)) (fun (k_58 : Mm → Aa) => mm_lk (fun (_ : Int32) (_ : Mm) => (none : Aa)) (fX7_goTo_L2 a1 k_58) mm_fu x1 μ))
abbrev rX7_goTo : Room := { frames := 4, cells := 0, slots := 0, locals := 92 }
set_option maxRecDepth 100000 in
set_option maxHeartbeats 8000000 in
theorem tX7_goTo {l : Launch} {D : va_G} {cA : Nat → ClassId} {adr : Nat → Nat} (hJ : mm_J adr NM) (a1 : Int32) (μ : Mm) : mm_Mv l D cA adr sM NM mm_SM yX7_goTo cX7_goTo 3 none rX7_goTo [.ref (adr 0), .int a1] μ (fX7_goTo a1 μ) := by
  refine mm_entryv hJ mm_okM (by decide) (Nat.le_of_ble_eq_true rfl) ⟨rfl, rfl⟩ (fun p e s m below meth c X hr => ?_)
  generalize ([.ref (adr 0), .int a1] : List Value).toArray = args at X ⊢
  refine gx_lv (lv' := [(0, .ref (adr 0)), (1, .int a1)]) rfl ?_
  unfold fX7_goTo
  refine gx_iconst X 0 1 (0) dX7_goTo_0 rfl ci_0 ?_
  refine gx_istore_n X 1 2 (fun x1 => [(2, .int x1), (0, .ref (adr 0)), (1, .int a1)]) dX7_goTo_1 rfl rfl (by decide) (fun _ => rfl) (fun x1 => ?_)
  refine gx_jn (fun (k : Mm → Aa) => ∀ (m2 : Mm), mm_G p l e rX7_goTo s m args below meth c 3 D cA adr sM NM (mm_Qv D cA adr sM NM) m2 58 [] [] (k m2)) ?_ (fun k_58 hk_58 => ?_)
  · intro m2
    exact gx_vret X 58 hr dX7_goTo_58
  refine gx_sub [1, 2, 0] rfl ?_
  refine mm_lk_ind (fun (rec : Int32 → Mm → Aa) => ∀ (x3 : Int32) (m4 : Mm), mm_G p l e rX7_goTo s m args below meth c 3 D cA adr sM NM (mm_Qv D cA adr sM NM) m4 2 [(0, .ref (adr 0)), (1, .int a1), (2, .int x3)] [] (rec x3 m4)) (fun _ _ => gx_none) (fun rec_2 hr_2 x3 m4 => ?_) mm_fu x1 μ
  unfold fX7_goTo_L2
  refine gx_iload_n X 2 3 2 dX7_goTo_2 rfl rfl rfl ?_
  refine gx_iload_n X 3 4 1 dX7_goTo_3 rfl rfl rfl ?_
  refine gx_icmp_gt X 4 58 7 dX7_goTo_4 rfl rfl ?_ ?_
  · refine gx_sub [] rfl ?_
    exact hk_58 m4
  refine gx_iload_n X 7 8 2 dX7_goTo_7 rfl rfl rfl ?_
  refine gx_jn (fun (k : Mm → Aa) => ∀ (m5 : Mm), mm_G p l e rX7_goTo s m args below meth c 3 D cA adr sM NM (mm_Qv D cA adr sM NM) m5 38 [(0, .ref (adr 0)), (1, .int a1), (2, .int x3)] [] (k m5)) ?_ (fun k_38 hk_38 => ?_)
  · intro m5
    refine gx_aload_n X 38 39 0 dX7_goTo_38 rfl rfl rfl ?_
    refine gx_callvV X 39 42 0 (rest := []) (As := []) (tX7_goOn hJ m5) (by decide) rfl rfl wc_X7_goOn wl_X7_228 wi_X7_goOn ws_X7_goOn wn_X7 rfl hd_X7_goOn ⟨Nat.le_of_ble_eq_true rfl, Nat.le_of_ble_eq_true rfl⟩ ⟨rfl, rfl⟩ rfl rfl (Nat.le_of_ble_eq_true rfl) dX7_goTo_39 rfl (fun x6 m7 => ?_)
    refine gx_aload_n X 42 43 0 dX7_goTo_42 rfl rfl rfl ?_
    refine gx_iload_n X 43 44 2 dX7_goTo_43 rfl rfl rfl ?_
    refine gx_callvV X 44 47 0 (rest := []) (As := [.int x3]) (tX7_stepOff hJ x3 m7) (by decide) rfl rfl wc_X7_stepOff wl_X7_231 wi_X7_stepOff ws_X7_stepOff wn_X7 rfl hd_X7_stepOff ⟨Nat.le_of_ble_eq_true rfl, Nat.le_of_ble_eq_true rfl⟩ ⟨rfl, rfl⟩ rfl rfl (Nat.le_of_ble_eq_true rfl) dX7_goTo_44 rfl (fun x8 m9 => ?_)
    refine gx_aload_n X 47 48 0 dX7_goTo_47 rfl rfl rfl ?_
    refine gx_iload_n X 48 49 2 dX7_goTo_48 rfl rfl rfl ?_
    refine gx_callvV X 49 52 0 (rest := []) (As := [.int x3]) (tX7_startAll hJ x3 m9) (by decide) rfl rfl wc_X7_startAll wl_X7_234 wi_X7_startAll ws_X7_startAll wn_X7 rfl hd_X7_startAll ⟨Nat.le_of_ble_eq_true rfl, Nat.le_of_ble_eq_true rfl⟩ ⟨rfl, rfl⟩ rfl rfl (Nat.le_of_ble_eq_true rfl) dX7_goTo_49 rfl (fun x10 m11 => ?_)
    refine gx_iinc X 52 55 2 (1) (fun x12 => [(2, .int x12), (0, .ref (adr 0)), (1, .int a1)]) dX7_goTo_52 rfl rfl ci_1 (by decide) (fun _ => rfl) (fun x12 => ?_)
    refine gx_goto X 55 2 dX7_goTo_55 rfl ?_
    refine gx_sub [1, 2, 0] rfl ?_
    exact hr_2 x12 m11
  refine gx_if_le X 8 38 11 dX7_goTo_8 rfl rfl ?_ ?_
  · exact hk_38 m4
  refine gx_iload_n X 11 12 2 dX7_goTo_11 rfl rfl rfl ?_
  refine gx_sipush X 12 15 (240) dX7_goTo_12 rfl cs_240 ?_
  refine gx_irem X 15 16 dX7_goTo_15 rfl ?_
  refine gx_if_ne X 16 38 19 dX7_goTo_16 rfl rfl ?_ ?_
  · exact hk_38 m4
  refine gx_aload_n X 19 20 0 dX7_goTo_19 rfl rfl rfl ?_
  refine gx_iconst X 20 21 (1) dX7_goTo_20 rfl ci_1 ?_
  refine gx_aload_n X 21 22 0 dX7_goTo_21 rfl rfl rfl ?_
  refine gx_getI X 22 25 0 (by decide) rfl rfl fg_X7_191 dX7_goTo_22 rfl ?_
  refine gx_aload_n X 25 26 0 dX7_goTo_25 rfl rfl rfl ?_
  refine gx_getR X 26 29 0 (by decide) rfl rfl fg_X7_13 dX7_goTo_26 rfl ?_
  refine gx_iconst X 29 30 (3) dX7_goTo_29 rfl ci_3 ?_
  refine gx_iaload X 30 31 2 (by decide) rfl dX7_goTo_30 rfl ?_
  refine gx_isub X 31 32 dX7_goTo_31 rfl ?_
  refine gx_calliS X 32 35 (rest := [.ref (adr 0)]) (As := [.int 1, .int ((m4 0 23) - (m4 2 (3 : Int32).toNatClampNeg))]) (tX7_most hJ 1 ((m4 0 23) - (m4 2 (3 : Int32).toNatClampNeg)) m4) wc_X7_most wl_X7_132 wt_X7_most wn_X7 hd_X7_most ⟨Nat.le_of_ble_eq_true rfl, Nat.le_of_ble_eq_true rfl⟩ ⟨rfl, rfl⟩ rfl rfl (Nat.le_of_ble_eq_true rfl) dX7_goTo_32 rfl (fun x13 m14 => ?_)
  refine gx_putI X 35 38 0 (by decide) rfl rfl fp_X7_191 dX7_goTo_35 rfl (fun m15 => ?_)
  exact hk_38 m15
def fX7_goAll (μ : Mm) : Aa := mm_cl (fX7_begin μ) (fun (x1 : Int32) (m2 : Mm) => mm_cl (fX7_goTo 999 m2) (fun (x3 : Int32) (m4 : Mm) => some (0, m4)))
abbrev rX7_goAll : Room := { frames := 5, cells := 0, slots := 0, locals := 114 }
set_option maxRecDepth 100000 in
set_option maxHeartbeats 8000000 in
theorem tX7_goAll {l : Launch} {D : va_G} {cA : Nat → ClassId} {adr : Nat → Nat} (hJ : mm_J adr NM) (μ : Mm) : mm_Mv l D cA adr sM NM mm_SM yX7_goAll cX7_goAll 1 none rX7_goAll [.ref (adr 0)] μ (fX7_goAll μ) := by
  refine mm_entryv hJ mm_okM (by decide) (Nat.le_of_ble_eq_true rfl) ⟨rfl, rfl⟩ (fun p e s m below meth c X hr => ?_)
  generalize ([.ref (adr 0)] : List Value).toArray = args at X ⊢
  refine gx_lv (lv' := [(0, .ref (adr 0))]) rfl ?_
  unfold fX7_goAll
  refine gx_aload_n X 0 1 0 dX7_goAll_0 rfl rfl rfl ?_
  refine gx_callvV X 1 4 0 (rest := []) (As := []) (tX7_begin hJ μ) (by decide) rfl rfl wc_X7_begin wl_X7_237 wi_X7_begin ws_X7_begin wn_X7 rfl hd_X7_begin ⟨Nat.le_of_ble_eq_true rfl, Nat.le_of_ble_eq_true rfl⟩ ⟨rfl, rfl⟩ rfl rfl (Nat.le_of_ble_eq_true rfl) dX7_goAll_1 rfl (fun x1 m2 => ?_)
  refine gx_aload_n X 4 5 0 dX7_goAll_4 rfl rfl rfl ?_
  refine gx_sipush X 5 8 (999) dX7_goAll_5 rfl cs_999 ?_
  refine gx_callvV X 8 11 0 (rest := []) (As := [.int 999]) (tX7_goTo hJ 999 m2) (by decide) rfl rfl wc_X7_goTo wl_X7_240 wi_X7_goTo ws_X7_goTo wn_X7 rfl hd_X7_goTo ⟨Nat.le_of_ble_eq_true rfl, Nat.le_of_ble_eq_true rfl⟩ ⟨rfl, rfl⟩ rfl rfl (Nat.le_of_ble_eq_true rfl) dX7_goAll_8 rfl (fun x3 m4 => ?_)
  exact gx_vret X 11 hr dX7_goAll_11
def fX7_wetOf (a1 : Int32) (μ : Mm) : Aa := mm_ck a1 10 (mm_ck a1 10 (mm_lt (fun (x1 : Int32) (m2 : Mm) => some ((μ 12 a1.toNatClampNeg) - x1, m2)) (fun (k_21 : Int32 → Mm → Aa) => if (μ 5 a1.toNatClampNeg) = 3 then (k_21 1 μ) else (k_21 0 μ))))
abbrev rX7_wetOf : Room := { frames := 0, cells := 0, slots := 0, locals := 0 }
set_option maxRecDepth 100000 in
set_option maxHeartbeats 8000000 in
theorem tX7_wetOf {l : Launch} {D : va_G} {cA : Nat → ClassId} {adr : Nat → Nat} (hJ : mm_J adr NM) (a1 : Int32) (μ : Mm) : mm_Mi l D cA adr sM NM mm_SM yX7_wetOf cX7_wetOf 2 (some .int) rX7_wetOf [.ref (adr 0), .int a1] μ (fX7_wetOf a1 μ) := by
  refine mm_entryi hJ mm_okM (by decide) (Nat.le_of_ble_eq_true rfl) ⟨rfl, rfl⟩ (fun p e s m below meth c X hr => ?_)
  generalize ([.ref (adr 0), .int a1] : List Value).toArray = args at X ⊢
  refine gx_lv (lv' := [(0, .ref (adr 0)), (1, .int a1)]) rfl ?_
  unfold fX7_wetOf
  refine gx_aload_n X 0 1 0 dX7_wetOf_0 rfl rfl rfl ?_
  refine gx_getR X 1 4 0 (by decide) rfl rfl fg_X7_47 dX7_wetOf_1 rfl ?_
  refine gx_iload_n X 4 5 1 dX7_wetOf_4 rfl rfl rfl ?_
  refine gx_iaload X 5 6 12 (by decide) rfl dX7_wetOf_5 rfl ?_
  refine gx_aload_n X 6 7 0 dX7_wetOf_6 rfl rfl rfl ?_
  refine gx_getR X 7 10 0 (by decide) rfl rfl fg_X7_26 dX7_wetOf_7 rfl ?_
  refine gx_iload_n X 10 11 1 dX7_wetOf_10 rfl rfl rfl ?_
  refine gx_iaload X 11 12 5 (by decide) rfl dX7_wetOf_11 rfl ?_
  refine gx_iconst X 12 13 (3) dX7_wetOf_12 rfl ci_3 ?_
  refine gx_jn (fun (k : Int32 → Mm → Aa) => ∀ (x1 : Int32) (m2 : Mm), mm_G p l e rX7_wetOf s m args below meth c 2 D cA adr sM NM (mm_Qi D cA adr sM NM) m2 21 [] [.int x1, .int (μ 12 a1.toNatClampNeg)] (k x1 m2)) ?_ (fun k_21 hk_21 => ?_)
  · intro x1 m2
    refine gx_isub X 21 22 dX7_wetOf_21 rfl ?_
    exact gx_iret X 22 hr dX7_wetOf_22
  refine gx_icmp_ne X 13 20 16 dX7_wetOf_13 rfl rfl ?_ ?_
  · refine gx_iconst X 20 21 (0) dX7_wetOf_20 rfl ci_0 ?_
    refine gx_sub [] rfl ?_
    exact hk_21 0 μ
  refine gx_iconst X 16 17 (1) dX7_wetOf_16 rfl ci_1 ?_
  refine gx_goto X 17 21 dX7_wetOf_17 rfl ?_
  refine gx_sub [] rfl ?_
  exact hk_21 1 μ
def fX7_sumOver_L4 (k_42 : Int32 → Mm → Aa) (rec_4 : Int32 → Int32 → Mm → Aa) (x5 : Int32) (x6 : Int32) (m7 : Mm) : Aa := if (m7 0 1) ≤ x6 then (k_42 x5 m7) else (mm_ck x6 10 (mm_lt (fun (x8 : Int32) (m9 : Mm) => mm_lt (x5 + x8) (fun (x10 : Int32) => mm_lt (x6 + 1) (fun (x11 : Int32) => rec_4 x10 x11 m9))) (fun (k_34 : Int32 → Mm → Aa) => if 0 ≤ (m7 15 x6.toNatClampNeg) then (mm_ck x6 10 (k_34 (m7 15 x6.toNatClampNeg) m7)) else (k_34 1000 m7))))
def fX7_sumOver (μ : Mm) : Aa := mm_lt 0 (fun (x1 : Int32) => mm_lt 0 (fun (x2 : Int32) => mm_lt (fun (x3 : Int32) (m4 : Mm) => some (x3, m4)) (fun (k_42 : Int32 → Mm → Aa) => mm_lk (fun (_ : Int32) (_ : Int32) (_ : Mm) => (none : Aa)) (fX7_sumOver_L4 k_42) mm_fu x1 x2 μ)))
abbrev rX7_sumOver : Room := { frames := 0, cells := 0, slots := 0, locals := 0 }
set_option maxRecDepth 100000 in
set_option maxHeartbeats 8000000 in
theorem tX7_sumOver {l : Launch} {D : va_G} {cA : Nat → ClassId} {adr : Nat → Nat} (hJ : mm_J adr NM) (μ : Mm) : mm_Mi l D cA adr sM NM mm_SM yX7_sumOver cX7_sumOver 3 (some .int) rX7_sumOver [.ref (adr 0)] μ (fX7_sumOver μ) := by
  refine mm_entryi hJ mm_okM (by decide) (Nat.le_of_ble_eq_true rfl) ⟨rfl, rfl⟩ (fun p e s m below meth c X hr => ?_)
  generalize ([.ref (adr 0)] : List Value).toArray = args at X ⊢
  refine gx_lv (lv' := [(0, .ref (adr 0))]) rfl ?_
  unfold fX7_sumOver
  refine gx_iconst X 0 1 (0) dX7_sumOver_0 rfl ci_0 ?_
  refine gx_istore_n X 1 2 (fun x1 => [(1, .int x1), (0, .ref (adr 0))]) dX7_sumOver_1 rfl rfl (by decide) (fun _ => rfl) (fun x1 => ?_)
  refine gx_iconst X 2 3 (0) dX7_sumOver_2 rfl ci_0 ?_
  refine gx_istore_n X 3 4 (fun x2 => [(2, .int x2), (1, .int x1), (0, .ref (adr 0))]) dX7_sumOver_3 rfl rfl (by decide) (fun _ => rfl) (fun x2 => ?_)
  refine gx_jn (fun (k : Int32 → Mm → Aa) => ∀ (x3 : Int32) (m4 : Mm), mm_G p l e rX7_sumOver s m args below meth c 3 D cA adr sM NM (mm_Qi D cA adr sM NM) m4 42 [(1, .int x3)] [] (k x3 m4)) ?_ (fun k_42 hk_42 => ?_)
  · intro x3 m4
    refine gx_iload_n X 42 43 0 dX7_sumOver_42 rfl rfl rfl ?_
    exact gx_iret X 43 hr dX7_sumOver_43
  refine gx_sub [2, 1, 0] rfl ?_
  refine mm_lk_ind (fun (rec : Int32 → Int32 → Mm → Aa) => ∀ (x5 : Int32) (x6 : Int32) (m7 : Mm), mm_G p l e rX7_sumOver s m args below meth c 3 D cA adr sM NM (mm_Qi D cA adr sM NM) m7 4 [(0, .ref (adr 0)), (1, .int x5), (2, .int x6)] [] (rec x5 x6 m7)) (fun _ _ _ => gx_none) (fun rec_4 hr_4 x5 x6 m7 => ?_) mm_fu x1 x2 μ
  unfold fX7_sumOver_L4
  refine gx_iload_n X 4 5 2 dX7_sumOver_4 rfl rfl rfl ?_
  refine gx_aload_n X 5 6 0 dX7_sumOver_5 rfl rfl rfl ?_
  refine gx_getI X 6 9 0 (by decide) rfl rfl fg_X7_98 dX7_sumOver_6 rfl ?_
  refine gx_icmp_ge X 9 42 12 dX7_sumOver_9 rfl rfl ?_ ?_
  · refine gx_sub [1] rfl ?_
    exact hk_42 x5 m7
  refine gx_iload_n X 12 13 1 dX7_sumOver_12 rfl rfl rfl ?_
  refine gx_aload_n X 13 14 0 dX7_sumOver_13 rfl rfl rfl ?_
  refine gx_getR X 14 17 0 (by decide) rfl rfl fg_X7_56 dX7_sumOver_14 rfl ?_
  refine gx_iload_n X 17 18 2 dX7_sumOver_17 rfl rfl rfl ?_
  refine gx_iaload X 18 19 15 (by decide) rfl dX7_sumOver_18 rfl ?_
  refine gx_jn (fun (k : Int32 → Mm → Aa) => ∀ (x8 : Int32) (m9 : Mm), mm_G p l e rX7_sumOver s m args below meth c 3 D cA adr sM NM (mm_Qi D cA adr sM NM) m9 34 [(0, .ref (adr 0)), (2, .int x6)] [.int x8, .int x5] (k x8 m9)) ?_ (fun k_34 hk_34 => ?_)
  · intro x8 m9
    refine gx_iadd X 34 35 dX7_sumOver_34 rfl ?_
    refine gx_istore_n X 35 36 (fun x10 => [(1, .int x10), (0, .ref (adr 0)), (2, .int x6)]) dX7_sumOver_35 rfl rfl (by decide) (fun _ => rfl) (fun x10 => ?_)
    refine gx_iinc X 36 39 2 (1) (fun x11 => [(2, .int x11), (1, .int x10), (0, .ref (adr 0))]) dX7_sumOver_36 rfl rfl ci_1 (by decide) (fun _ => rfl) (fun x11 => ?_)
    refine gx_goto X 39 4 dX7_sumOver_39 rfl ?_
    refine gx_sub [2, 1, 0] rfl ?_
    exact hr_4 x10 x11 m9
  refine gx_if_ge X 19 28 22 dX7_sumOver_19 rfl rfl ?_ ?_
  · refine gx_aload_n X 28 29 0 dX7_sumOver_28 rfl rfl rfl ?_
    refine gx_getR X 29 32 0 (by decide) rfl rfl fg_X7_56 dX7_sumOver_29 rfl ?_
    refine gx_iload_n X 32 33 2 dX7_sumOver_32 rfl rfl rfl ?_
    refine gx_iaload X 33 34 15 (by decide) rfl dX7_sumOver_33 rfl ?_
    refine gx_sub [0, 2] rfl ?_
    exact hk_34 (m7 15 x6.toNatClampNeg) m7
  refine gx_sipush X 22 25 (1000) dX7_sumOver_22 rfl cs_1000 ?_
  refine gx_goto X 25 34 dX7_sumOver_25 rfl ?_
  refine gx_sub [0, 2] rfl ?_
  exact hk_34 1000 m7
