def fX7_in (a0 : Int64) (a1 : Int64) (a2 : Int64) (μ : Mm) : Aa := mm_lt (fun (x1 : Int32) (m2 : Mm) => mm_bo x1 (some (x1, m2))) (fun (k_18 : Int32 → Mm → Aa) => mm_lt (fun (m3 : Mm) => k_18 0 m3) (fun (k_17 : Mm → Aa) => if (lg_cmp a0 a1) < 0 then (k_17 μ) else (if 0 < (lg_cmp a0 a2) then (k_17 μ) else (k_18 1 μ))))
abbrev rX7_in : Room := { frames := 0, cells := 0, slots := 0, locals := 0 }
set_option maxRecDepth 100000 in
set_option maxHeartbeats 8000000 in
theorem tX7_in {l : Launch} {D : va_G} {cA : Nat → ClassId} {adr : Nat → Nat} (hJ : mm_J adr NM) (a0 : Int64) (a1 : Int64) (a2 : Int64) (μ : Mm) : mm_Mi l D cA adr sM NM mm_SM yX7_in cX7_in 6 (some .boolean) rX7_in [.long a0, .long a1, .long a2] μ (fX7_in a0 a1 a2 μ) := by
  refine mm_entryi hJ mm_okM (by decide) (Nat.le_of_ble_eq_true rfl) ⟨rfl, rfl⟩ (fun p e s m below meth c X hr => ?_)
  generalize ([.long a0, .long a1, .long a2] : List Value).toArray = args at X ⊢
  refine gx_lv (lv' := [(0, .long a0), (2, .long a1), (4, .long a2)]) rfl ?_
  unfold fX7_in
  refine gx_lload_n X 0 1 0 dX7_in_0 rfl rfl rfl ?_
  refine gx_lload_n X 1 2 1 dX7_in_1 rfl rfl rfl ?_
  refine gx_lcmp X 2 3 dX7_in_2 rfl ?_
  refine gx_jn (fun (k : Int32 → Mm → Aa) => ∀ (x1 : Int32) (m2 : Mm), mm_G p l e rX7_in s m args below meth c 6 D cA adr sM NM (mm_Qi D cA adr sM NM) m2 18 [] [.int x1] (k x1 m2)) ?_ (fun k_18 hk_18 => ?_)
  · intro x1 m2
    exact gx_zret X 18 hr dX7_in_18
  refine gx_jn (fun (k : Mm → Aa) => ∀ (m3 : Mm), mm_G p l e rX7_in s m args below meth c 6 D cA adr sM NM (mm_Qi D cA adr sM NM) m3 17 [] [] (k m3)) ?_ (fun k_17 hk_17 => ?_)
  · intro m3
    refine gx_iconst X 17 18 (0) dX7_in_17 rfl ci_0 ?_
    exact hk_18 0 m3
  refine gx_if_lt X 3 17 6 dX7_in_3 rfl rfl ?_ ?_
  · refine gx_sub [] rfl ?_
    exact hk_17 μ
  refine gx_lload_n X 6 7 0 dX7_in_6 rfl rfl rfl ?_
  refine gx_lload X 7 9 2 dX7_in_7 rfl rfl ?_
  refine gx_lcmp X 9 10 dX7_in_9 rfl ?_
  refine gx_if_gt X 10 17 13 dX7_in_10 rfl rfl ?_ ?_
  · refine gx_sub [] rfl ?_
    exact hk_17 μ
  refine gx_iconst X 13 14 (1) dX7_in_13 rfl ci_1 ?_
  refine gx_goto X 14 18 dX7_in_14 rfl ?_
  refine gx_sub [] rfl ?_
  exact hk_18 1 μ
def fX7_least (a0 : Int32) (a1 : Int32) (μ : Mm) : Aa := mm_lt (fun (x1 : Int32) (m2 : Mm) => some (x1, m2)) (fun (k_10 : Int32 → Mm → Aa) => if a1 ≤ a0 then (k_10 a1 μ) else (k_10 a0 μ))
abbrev rX7_least : Room := { frames := 0, cells := 0, slots := 0, locals := 0 }
set_option maxRecDepth 100000 in
set_option maxHeartbeats 8000000 in
theorem tX7_least {l : Launch} {D : va_G} {cA : Nat → ClassId} {adr : Nat → Nat} (hJ : mm_J adr NM) (a0 : Int32) (a1 : Int32) (μ : Mm) : mm_Mi l D cA adr sM NM mm_SM yX7_least cX7_least 2 (some .int) rX7_least [.int a0, .int a1] μ (fX7_least a0 a1 μ) := by
  refine mm_entryi hJ mm_okM (by decide) (Nat.le_of_ble_eq_true rfl) ⟨rfl, rfl⟩ (fun p e s m below meth c X hr => ?_)
  generalize ([.int a0, .int a1] : List Value).toArray = args at X ⊢
  refine gx_lv (lv' := [(0, .int a0), (1, .int a1)]) rfl ?_
  unfold fX7_least
  refine gx_iload_n X 0 1 0 dX7_least_0 rfl rfl rfl ?_
  refine gx_iload_n X 1 2 1 dX7_least_1 rfl rfl rfl ?_
  refine gx_jn (fun (k : Int32 → Mm → Aa) => ∀ (x1 : Int32) (m2 : Mm), mm_G p l e rX7_least s m args below meth c 2 D cA adr sM NM (mm_Qi D cA adr sM NM) m2 10 [] [.int x1] (k x1 m2)) ?_ (fun k_10 hk_10 => ?_)
  · intro x1 m2
    exact gx_iret X 10 hr dX7_least_10
  refine gx_icmp_ge X 2 9 5 dX7_least_2 rfl rfl ?_ ?_
  · refine gx_iload_n X 9 10 1 dX7_least_9 rfl rfl rfl ?_
    refine gx_sub [] rfl ?_
    exact hk_10 a1 μ
  refine gx_iload_n X 5 6 0 dX7_least_5 rfl rfl rfl ?_
  refine gx_goto X 6 10 dX7_least_6 rfl ?_
  refine gx_sub [] rfl ?_
  exact hk_10 a0 μ
def fX7_most (a0 : Int32) (a1 : Int32) (μ : Mm) : Aa := mm_lt (fun (x1 : Int32) (m2 : Mm) => some (x1, m2)) (fun (k_10 : Int32 → Mm → Aa) => if a0 ≤ a1 then (k_10 a1 μ) else (k_10 a0 μ))
abbrev rX7_most : Room := { frames := 0, cells := 0, slots := 0, locals := 0 }
set_option maxRecDepth 100000 in
set_option maxHeartbeats 8000000 in
theorem tX7_most {l : Launch} {D : va_G} {cA : Nat → ClassId} {adr : Nat → Nat} (hJ : mm_J adr NM) (a0 : Int32) (a1 : Int32) (μ : Mm) : mm_Mi l D cA adr sM NM mm_SM yX7_most cX7_most 2 (some .int) rX7_most [.int a0, .int a1] μ (fX7_most a0 a1 μ) := by
  refine mm_entryi hJ mm_okM (by decide) (Nat.le_of_ble_eq_true rfl) ⟨rfl, rfl⟩ (fun p e s m below meth c X hr => ?_)
  generalize ([.int a0, .int a1] : List Value).toArray = args at X ⊢
  refine gx_lv (lv' := [(0, .int a0), (1, .int a1)]) rfl ?_
  unfold fX7_most
  refine gx_iload_n X 0 1 0 dX7_most_0 rfl rfl rfl ?_
  refine gx_iload_n X 1 2 1 dX7_most_1 rfl rfl rfl ?_
  refine gx_jn (fun (k : Int32 → Mm → Aa) => ∀ (x1 : Int32) (m2 : Mm), mm_G p l e rX7_most s m args below meth c 2 D cA adr sM NM (mm_Qi D cA adr sM NM) m2 10 [] [.int x1] (k x1 m2)) ?_ (fun k_10 hk_10 => ?_)
  · intro x1 m2
    exact gx_iret X 10 hr dX7_most_10
  refine gx_icmp_le X 2 9 5 dX7_most_2 rfl rfl ?_ ?_
  · refine gx_iload_n X 9 10 1 dX7_most_9 rfl rfl rfl ?_
    refine gx_sub [] rfl ?_
    exact hk_10 a1 μ
  refine gx_iload_n X 5 6 0 dX7_most_5 rfl rfl rfl ?_
  refine gx_goto X 6 10 dX7_most_6 rfl ?_
  refine gx_sub [] rfl ?_
  exact hk_10 a0 μ
def fX7_has (a0 : Int32) (a1 : Int32) (μ : Mm) : Aa := mm_lt (fun (x1 : Int32) (m2 : Mm) => mm_bo x1 (some (x1, m2))) (fun (k_14 : Int32 → Mm → Aa) => if ((a0 >>> (a1 &&& 31)) &&& 1) = 1 then (k_14 1 μ) else (k_14 0 μ))
abbrev rX7_has : Room := { frames := 0, cells := 0, slots := 0, locals := 0 }
set_option maxRecDepth 100000 in
set_option maxHeartbeats 8000000 in
theorem tX7_has {l : Launch} {D : va_G} {cA : Nat → ClassId} {adr : Nat → Nat} (hJ : mm_J adr NM) (a0 : Int32) (a1 : Int32) (μ : Mm) : mm_Mi l D cA adr sM NM mm_SM yX7_has cX7_has 2 (some .boolean) rX7_has [.int a0, .int a1] μ (fX7_has a0 a1 μ) := by
  refine mm_entryi hJ mm_okM (by decide) (Nat.le_of_ble_eq_true rfl) ⟨rfl, rfl⟩ (fun p e s m below meth c X hr => ?_)
  generalize ([.int a0, .int a1] : List Value).toArray = args at X ⊢
  refine gx_lv (lv' := [(0, .int a0), (1, .int a1)]) rfl ?_
  unfold fX7_has
  refine gx_iload_n X 0 1 0 dX7_has_0 rfl rfl rfl ?_
  refine gx_iload_n X 1 2 1 dX7_has_1 rfl rfl rfl ?_
  refine gx_ishr X 2 3 dX7_has_2 rfl ?_
  refine gx_iconst X 3 4 (1) dX7_has_3 rfl ci_1 ?_
  refine gx_iand X 4 5 dX7_has_4 rfl ?_
  refine gx_iconst X 5 6 (1) dX7_has_5 rfl ci_1 ?_
  refine gx_jn (fun (k : Int32 → Mm → Aa) => ∀ (x1 : Int32) (m2 : Mm), mm_G p l e rX7_has s m args below meth c 2 D cA adr sM NM (mm_Qi D cA adr sM NM) m2 14 [] [.int x1] (k x1 m2)) ?_ (fun k_14 hk_14 => ?_)
  · intro x1 m2
    exact gx_zret X 14 hr dX7_has_14
  refine gx_icmp_ne X 6 13 9 dX7_has_6 rfl rfl ?_ ?_
  · refine gx_iconst X 13 14 (0) dX7_has_13 rfl ci_0 ?_
    refine gx_sub [] rfl ?_
    exact hk_14 0 μ
  refine gx_iconst X 9 10 (1) dX7_has_9 rfl ci_1 ?_
  refine gx_goto X 10 14 dX7_has_10 rfl ?_
  refine gx_sub [] rfl ?_
  exact hk_14 1 μ
def fX7_isPerson (a1 : Int32) (μ : Mm) : Aa := mm_cl (fX7_in a1.toInt64 0 (((μ 0 1) - 1).toInt64) μ) (fun (x1 : Int32) (m2 : Mm) => mm_bo x1 (some (x1, m2)))
abbrev rX7_isPerson : Room := { frames := 1, cells := 0, slots := 0, locals := 25 }
set_option maxRecDepth 100000 in
set_option maxHeartbeats 8000000 in
theorem tX7_isPerson {l : Launch} {D : va_G} {cA : Nat → ClassId} {adr : Nat → Nat} (hJ : mm_J adr NM) (a1 : Int32) (μ : Mm) : mm_Mi l D cA adr sM NM mm_SM yX7_isPerson cX7_isPerson 2 (some .boolean) rX7_isPerson [.ref (adr 0), .int a1] μ (fX7_isPerson a1 μ) := by
  refine mm_entryi hJ mm_okM (by decide) (Nat.le_of_ble_eq_true rfl) ⟨rfl, rfl⟩ (fun p e s m below meth c X hr => ?_)
  generalize ([.ref (adr 0), .int a1] : List Value).toArray = args at X ⊢
  refine gx_lv (lv' := [(0, .ref (adr 0)), (1, .int a1)]) rfl ?_
  unfold fX7_isPerson
  refine gx_iload_n X 0 1 1 dX7_isPerson_0 rfl rfl rfl ?_
  refine gx_i2l X 1 2 dX7_isPerson_1 rfl ?_
  refine gx_lconst X 2 3 (0) dX7_isPerson_2 rfl cl_0 ?_
  refine gx_aload_n X 3 4 0 dX7_isPerson_3 rfl rfl rfl ?_
  refine gx_getI X 4 7 0 (by decide) rfl rfl fg_X7_98 dX7_isPerson_4 rfl ?_
  refine gx_iconst X 7 8 (1) dX7_isPerson_7 rfl ci_1 ?_
  refine gx_isub X 8 9 dX7_isPerson_8 rfl ?_
  refine gx_i2l X 9 10 dX7_isPerson_9 rfl ?_
  refine gx_calliS X 10 13 (rest := []) (As := [.long a1.toInt64, .long 0, .long (((μ 0 1) - 1).toInt64)]) (tX7_in hJ a1.toInt64 0 (((μ 0 1) - 1).toInt64) μ) wc_X7_in wl_X7_101 wt_X7_in wn_X7 hd_X7_in ⟨Nat.le_of_ble_eq_true rfl, Nat.le_of_ble_eq_true rfl⟩ ⟨rfl, rfl⟩ rfl rfl (Nat.le_of_ble_eq_true rfl) dX7_isPerson_10 rfl (fun x1 m2 => ?_)
  exact gx_zret X 13 hr dX7_isPerson_13
def fX7_planks (a1 : Int32) (μ : Mm) : Aa := mm_cl (fX7_in a1.toInt64 1 400 μ) (fun (x1 : Int32) (m2 : Mm) => if x1 = 0 then (some ((-1), m2)) else (mm_lt (m2 0 3) (fun (x3 : Int32) => mm_lt (mm_wr m2 0 3 a1) (fun (m4 : Mm) => some (x3, m4)))))
abbrev rX7_planks : Room := { frames := 1, cells := 0, slots := 0, locals := 25 }
set_option maxRecDepth 100000 in
set_option maxHeartbeats 8000000 in
theorem tX7_planks {l : Launch} {D : va_G} {cA : Nat → ClassId} {adr : Nat → Nat} (hJ : mm_J adr NM) (a1 : Int32) (μ : Mm) : mm_Mi l D cA adr sM NM mm_SM yX7_planks cX7_planks 3 (some .int) rX7_planks [.ref (adr 0), .int a1] μ (fX7_planks a1 μ) := by
  refine mm_entryi hJ mm_okM (by decide) (Nat.le_of_ble_eq_true rfl) ⟨rfl, rfl⟩ (fun p e s m below meth c X hr => ?_)
  generalize ([.ref (adr 0), .int a1] : List Value).toArray = args at X ⊢
  refine gx_lv (lv' := [(0, .ref (adr 0)), (1, .int a1)]) rfl ?_
  unfold fX7_planks
  refine gx_iload_n X 0 1 1 dX7_planks_0 rfl rfl rfl ?_
  refine gx_i2l X 1 2 dX7_planks_1 rfl ?_
  refine gx_lconst X 2 3 (1) dX7_planks_2 rfl cl_1 ?_
  refine gx_ldc2_w X 3 6 wk_X7_105 dX7_planks_3 rfl ?_
  refine gx_calliS X 6 9 (rest := []) (As := [.long a1.toInt64, .long 1, .long 400]) (tX7_in hJ a1.toInt64 1 400 μ) wc_X7_in wl_X7_101 wt_X7_in wn_X7 hd_X7_in ⟨Nat.le_of_ble_eq_true rfl, Nat.le_of_ble_eq_true rfl⟩ ⟨rfl, rfl⟩ rfl rfl (Nat.le_of_ble_eq_true rfl) dX7_planks_6 rfl (fun x1 m2 => ?_)
  refine gx_if_ne X 9 14 12 dX7_planks_9 rfl rfl ?_ ?_
  · refine gx_aload_n X 14 15 0 dX7_planks_14 rfl rfl rfl ?_
    refine gx_getI X 15 18 0 (by decide) rfl rfl fg_X7_16 dX7_planks_15 rfl ?_
    refine gx_istore_n X 18 19 (fun x3 => [(2, .int x3), (0, .ref (adr 0)), (1, .int a1)]) dX7_planks_18 rfl rfl (by decide) (fun _ => rfl) (fun x3 => ?_)
    refine gx_aload_n X 19 20 1 dX7_planks_19 rfl rfl rfl ?_
    refine gx_iload_n X 20 21 2 dX7_planks_20 rfl rfl rfl ?_
    refine gx_putI X 21 24 0 (by decide) rfl rfl fp_X7_16 dX7_planks_21 rfl (fun m4 => ?_)
    refine gx_iload_n X 24 25 0 dX7_planks_24 rfl rfl rfl ?_
    exact gx_iret X 25 hr dX7_planks_25
  refine gx_iconst X 12 13 (-1) dX7_planks_12 rfl ci_m1 ?_
  exact gx_iret X 13 hr dX7_planks_13
def fX7_leastOf (a0 : Int32) (μ : Mm) : Aa := mm_lt (fun (x1 : Int32) (m2 : Mm) => some (x1, m2)) (fun (k_10 : Int32 → Mm → Aa) => if a0 = 2 then (k_10 1 μ) else (k_10 0 μ))
abbrev rX7_leastOf : Room := { frames := 0, cells := 0, slots := 0, locals := 0 }
set_option maxRecDepth 100000 in
set_option maxHeartbeats 8000000 in
theorem tX7_leastOf {l : Launch} {D : va_G} {cA : Nat → ClassId} {adr : Nat → Nat} (hJ : mm_J adr NM) (a0 : Int32) (μ : Mm) : mm_Mi l D cA adr sM NM mm_SM yX7_leastOf cX7_leastOf 1 (some .int) rX7_leastOf [.int a0] μ (fX7_leastOf a0 μ) := by
  refine mm_entryi hJ mm_okM (by decide) (Nat.le_of_ble_eq_true rfl) ⟨rfl, rfl⟩ (fun p e s m below meth c X hr => ?_)
  generalize ([.int a0] : List Value).toArray = args at X ⊢
  refine gx_lv (lv' := [(0, .int a0)]) rfl ?_
  unfold fX7_leastOf
  refine gx_iload_n X 0 1 0 dX7_leastOf_0 rfl rfl rfl ?_
  refine gx_iconst X 1 2 (2) dX7_leastOf_1 rfl ci_2 ?_
  refine gx_jn (fun (k : Int32 → Mm → Aa) => ∀ (x1 : Int32) (m2 : Mm), mm_G p l e rX7_leastOf s m args below meth c 1 D cA adr sM NM (mm_Qi D cA adr sM NM) m2 10 [] [.int x1] (k x1 m2)) ?_ (fun k_10 hk_10 => ?_)
  · intro x1 m2
    exact gx_iret X 10 hr dX7_leastOf_10
  refine gx_icmp_ne X 2 9 5 dX7_leastOf_2 rfl rfl ?_ ?_
  · refine gx_iconst X 9 10 (0) dX7_leastOf_9 rfl ci_0 ?_
    refine gx_sub [] rfl ?_
    exact hk_10 0 μ
  refine gx_iconst X 5 6 (1) dX7_leastOf_5 rfl ci_1 ?_
  refine gx_goto X 6 10 dX7_leastOf_6 rfl ?_
  refine gx_sub [] rfl ?_
  exact hk_10 1 μ
def fX7_mostOf (a0 : Int32) (μ : Mm) : Aa := mm_lt (fun (x1 : Int32) (m2 : Mm) => some (x1, m2)) (fun (k_51 : Int32 → Mm → Aa) => if a0 = 0 then (k_51 9 μ) else (if a0 = 1 then (k_51 2 μ) else (if a0 = 2 then (k_51 60 μ) else (if a0 = 3 then (k_51 50 μ) else (if a0 = 4 then (k_51 99 μ) else (k_51 200 μ))))))
abbrev rX7_mostOf : Room := { frames := 0, cells := 0, slots := 0, locals := 0 }
set_option maxRecDepth 100000 in
set_option maxHeartbeats 8000000 in
theorem tX7_mostOf {l : Launch} {D : va_G} {cA : Nat → ClassId} {adr : Nat → Nat} (hJ : mm_J adr NM) (a0 : Int32) (μ : Mm) : mm_Mi l D cA adr sM NM mm_SM yX7_mostOf cX7_mostOf 1 (some .int) rX7_mostOf [.int a0] μ (fX7_mostOf a0 μ) := by
  refine mm_entryi hJ mm_okM (by decide) (Nat.le_of_ble_eq_true rfl) ⟨rfl, rfl⟩ (fun p e s m below meth c X hr => ?_)
  generalize ([.int a0] : List Value).toArray = args at X ⊢
  refine gx_lv (lv' := [(0, .int a0)]) rfl ?_
  unfold fX7_mostOf
  refine gx_iload_n X 0 1 0 dX7_mostOf_0 rfl rfl rfl ?_
  refine gx_jn (fun (k : Int32 → Mm → Aa) => ∀ (x1 : Int32) (m2 : Mm), mm_G p l e rX7_mostOf s m args below meth c 1 D cA adr sM NM (mm_Qi D cA adr sM NM) m2 51 [] [.int x1] (k x1 m2)) ?_ (fun k_51 hk_51 => ?_)
  · intro x1 m2
    exact gx_iret X 51 hr dX7_mostOf_51
  refine gx_if_ne X 1 9 4 dX7_mostOf_1 rfl rfl ?_ ?_
  · refine gx_iload_n X 9 10 0 dX7_mostOf_9 rfl rfl rfl ?_
    refine gx_iconst X 10 11 (1) dX7_mostOf_10 rfl ci_1 ?_
    refine gx_icmp_ne X 11 18 14 dX7_mostOf_11 rfl rfl ?_ ?_
    · refine gx_iload_n X 18 19 0 dX7_mostOf_18 rfl rfl rfl ?_
      refine gx_iconst X 19 20 (2) dX7_mostOf_19 rfl ci_2 ?_
      refine gx_icmp_ne X 20 28 23 dX7_mostOf_20 rfl rfl ?_ ?_
      · refine gx_iload_n X 28 29 0 dX7_mostOf_28 rfl rfl rfl ?_
        refine gx_iconst X 29 30 (3) dX7_mostOf_29 rfl ci_3 ?_
        refine gx_icmp_ne X 30 38 33 dX7_mostOf_30 rfl rfl ?_ ?_
        · refine gx_iload_n X 38 39 0 dX7_mostOf_38 rfl rfl rfl ?_
          refine gx_iconst X 39 40 (4) dX7_mostOf_39 rfl ci_4 ?_
          refine gx_icmp_ne X 40 48 43 dX7_mostOf_40 rfl rfl ?_ ?_
          · refine gx_sipush X 48 51 (200) dX7_mostOf_48 rfl cs_200 ?_
            refine gx_sub [] rfl ?_
            exact hk_51 200 μ
          refine gx_bipush X 43 45 (99) dX7_mostOf_43 rfl cb_99 ?_
          refine gx_goto X 45 51 dX7_mostOf_45 rfl ?_
          refine gx_sub [] rfl ?_
          exact hk_51 99 μ
        refine gx_bipush X 33 35 (50) dX7_mostOf_33 rfl cb_50 ?_
        refine gx_goto X 35 51 dX7_mostOf_35 rfl ?_
        refine gx_sub [] rfl ?_
        exact hk_51 50 μ
      refine gx_bipush X 23 25 (60) dX7_mostOf_23 rfl cb_60 ?_
      refine gx_goto X 25 51 dX7_mostOf_25 rfl ?_
      refine gx_sub [] rfl ?_
      exact hk_51 60 μ
    refine gx_iconst X 14 15 (2) dX7_mostOf_14 rfl ci_2 ?_
    refine gx_goto X 15 51 dX7_mostOf_15 rfl ?_
    refine gx_sub [] rfl ?_
    exact hk_51 2 μ
  refine gx_bipush X 4 6 (9) dX7_mostOf_4 rfl cb_9 ?_
  refine gx_goto X 6 51 dX7_mostOf_6 rfl ?_
  refine gx_sub [] rfl ?_
  exact hk_51 9 μ
def fX7_rule (a1 : Int32) (a2 : Int32) (μ : Mm) : Aa := mm_cl (fX7_in a1.toInt64 0 5 μ) (fun (x1 : Int32) (m2 : Mm) => mm_lt (fun (m3 : Mm) => some ((-1), m3)) (fun (k_30 : Mm → Aa) => if x1 = 0 then (k_30 m2) else (mm_cl (fX7_leastOf a1 m2) (fun (x4 : Int32) (m5 : Mm) => mm_cl (fX7_mostOf a1 m5) (fun (x6 : Int32) (m7 : Mm) => mm_cl (fX7_in a2.toInt64 x4.toInt64 x6.toInt64 m7) (fun (x8 : Int32) (m9 : Mm) => if x8 = 0 then (k_30 m9) else (mm_ck a1 6 (mm_lt (m9 2 a1.toNatClampNeg) (fun (x10 : Int32) => mm_ck a1 6 (mm_lt (mm_wr m9 2 a1.toNatClampNeg a2) (fun (m11 : Mm) => some (x10, m11))))))))))))
abbrev rX7_rule : Room := { frames := 1, cells := 0, slots := 0, locals := 25 }
set_option maxRecDepth 100000 in
set_option maxHeartbeats 8000000 in
theorem tX7_rule {l : Launch} {D : va_G} {cA : Nat → ClassId} {adr : Nat → Nat} (hJ : mm_J adr NM) (a1 : Int32) (a2 : Int32) (μ : Mm) : mm_Mi l D cA adr sM NM mm_SM yX7_rule cX7_rule 4 (some .int) rX7_rule [.ref (adr 0), .int a1, .int a2] μ (fX7_rule a1 a2 μ) := by
  refine mm_entryi hJ mm_okM (by decide) (Nat.le_of_ble_eq_true rfl) ⟨rfl, rfl⟩ (fun p e s m below meth c X hr => ?_)
  generalize ([.ref (adr 0), .int a1, .int a2] : List Value).toArray = args at X ⊢
  refine gx_lv (lv' := [(0, .ref (adr 0)), (1, .int a1), (2, .int a2)]) rfl ?_
  unfold fX7_rule
  refine gx_iload_n X 0 1 1 dX7_rule_0 rfl rfl rfl ?_
  refine gx_i2l X 1 2 dX7_rule_1 rfl ?_
  refine gx_lconst X 2 3 (0) dX7_rule_2 rfl cl_0 ?_
  refine gx_ldc2_w X 3 6 wk_X7_107 dX7_rule_3 rfl ?_
  refine gx_calliS X 6 9 (rest := []) (As := [.long a1.toInt64, .long 0, .long 5]) (tX7_in hJ a1.toInt64 0 5 μ) wc_X7_in wl_X7_101 wt_X7_in wn_X7 hd_X7_in ⟨Nat.le_of_ble_eq_true rfl, Nat.le_of_ble_eq_true rfl⟩ ⟨rfl, rfl⟩ rfl rfl (Nat.le_of_ble_eq_true rfl) dX7_rule_6 rfl (fun x1 m2 => ?_)
  refine gx_jn (fun (k : Mm → Aa) => ∀ (m3 : Mm), mm_G p l e rX7_rule s m args below meth c 4 D cA adr sM NM (mm_Qi D cA adr sM NM) m3 30 [] [] (k m3)) ?_ (fun k_30 hk_30 => ?_)
  · intro m3
    refine gx_iconst X 30 31 (-1) dX7_rule_30 rfl ci_m1 ?_
    exact gx_iret X 31 hr dX7_rule_31
  refine gx_if_eq X 9 30 12 dX7_rule_9 rfl rfl ?_ ?_
  · refine gx_sub [] rfl ?_
    exact hk_30 m2
  refine gx_iload_n X 12 13 2 dX7_rule_12 rfl rfl rfl ?_
  refine gx_i2l X 13 14 dX7_rule_13 rfl ?_
  refine gx_iload_n X 14 15 1 dX7_rule_14 rfl rfl rfl ?_
  refine gx_calliS X 15 18 (rest := [.long a2.toInt64]) (As := [.int a1]) (tX7_leastOf hJ a1 m2) wc_X7_leastOf wl_X7_109 wt_X7_leastOf wn_X7 hd_X7_leastOf ⟨Nat.le_of_ble_eq_true rfl, Nat.le_of_ble_eq_true rfl⟩ ⟨rfl, rfl⟩ rfl rfl (Nat.le_of_ble_eq_true rfl) dX7_rule_15 rfl (fun x4 m5 => ?_)
  refine gx_i2l X 18 19 dX7_rule_18 rfl ?_
  refine gx_iload_n X 19 20 1 dX7_rule_19 rfl rfl rfl ?_
  refine gx_calliS X 20 23 (rest := [.long x4.toInt64, .long a2.toInt64]) (As := [.int a1]) (tX7_mostOf hJ a1 m5) wc_X7_mostOf wl_X7_113 wt_X7_mostOf wn_X7 hd_X7_mostOf ⟨Nat.le_of_ble_eq_true rfl, Nat.le_of_ble_eq_true rfl⟩ ⟨rfl, rfl⟩ rfl rfl (Nat.le_of_ble_eq_true rfl) dX7_rule_20 rfl (fun x6 m7 => ?_)
  refine gx_i2l X 23 24 dX7_rule_23 rfl ?_
  refine gx_calliS X 24 27 (rest := []) (As := [.long a2.toInt64, .long x4.toInt64, .long x6.toInt64]) (tX7_in hJ a2.toInt64 x4.toInt64 x6.toInt64 m7) wc_X7_in wl_X7_101 wt_X7_in wn_X7 hd_X7_in ⟨Nat.le_of_ble_eq_true rfl, Nat.le_of_ble_eq_true rfl⟩ ⟨rfl, rfl⟩ rfl rfl (Nat.le_of_ble_eq_true rfl) dX7_rule_24 rfl (fun x8 m9 => ?_)
  refine gx_if_ne X 27 32 30 dX7_rule_27 rfl rfl ?_ ?_
  · refine gx_aload_n X 32 33 0 dX7_rule_32 rfl rfl rfl ?_
    refine gx_getR X 33 36 0 (by decide) rfl rfl fg_X7_13 dX7_rule_33 rfl ?_
    refine gx_iload_n X 36 37 1 dX7_rule_36 rfl rfl rfl ?_
    refine gx_iaload X 37 38 2 (by decide) rfl dX7_rule_37 rfl ?_
    refine gx_istore_n X 38 39 (fun x10 => [(3, .int x10), (0, .ref (adr 0)), (1, .int a1), (2, .int a2)]) dX7_rule_38 rfl rfl (by decide) (fun _ => rfl) (fun x10 => ?_)
    refine gx_aload_n X 39 40 1 dX7_rule_39 rfl rfl rfl ?_
    refine gx_getR X 40 43 0 (by decide) rfl rfl fg_X7_13 dX7_rule_40 rfl ?_
    refine gx_iload_n X 43 44 2 dX7_rule_43 rfl rfl rfl ?_
    refine gx_iload_n X 44 45 3 dX7_rule_44 rfl rfl rfl ?_
    refine gx_iastore X 45 46 2 (by decide) rfl dX7_rule_45 rfl (fun m11 => ?_)
    refine gx_iload_n X 46 47 0 dX7_rule_46 rfl rfl rfl ?_
    exact gx_iret X 47 hr dX7_rule_47
  refine gx_sub [] rfl ?_
  exact hk_30 m9
def fX7_may (a0 : Int64) (a1 : Int64) (a2 : Int64) (a3 : Int64) (a4 : Int64) (μ : Mm) : Aa := mm_cl (fX7_in a0 0 499 μ) (fun (x1 : Int32) (m2 : Mm) => mm_lt (fun (x3 : Int32) (m4 : Mm) => mm_bo x3 (some (x3, m4))) (fun (k_61 : Int32 → Mm → Aa) => mm_lt (fun (m5 : Mm) => k_61 0 m5) (fun (k_60 : Mm → Aa) => if x1 = 0 then (k_60 m2) else (mm_cl (fX7_in a1 0 1 m2) (fun (x6 : Int32) (m7 : Mm) => if x6 = 0 then (k_60 m7) else (mm_cl (fX7_in a2 0 3 m7) (fun (x8 : Int32) (m9 : Mm) => if x8 = 0 then (k_60 m9) else (mm_cl (fX7_in a3 1 20 m9) (fun (x10 : Int32) (m11 : Mm) => if x10 = 0 then (k_60 m11) else (mm_cl (fX7_in a4 1 6 m11) (fun (x12 : Int32) (m13 : Mm) => if x12 = 0 then (k_60 m13) else (k_61 1 m13))))))))))))
abbrev rX7_may : Room := { frames := 1, cells := 0, slots := 0, locals := 25 }
set_option maxRecDepth 100000 in
set_option maxHeartbeats 8000000 in
theorem tX7_may {l : Launch} {D : va_G} {cA : Nat → ClassId} {adr : Nat → Nat} (hJ : mm_J adr NM) (a0 : Int64) (a1 : Int64) (a2 : Int64) (a3 : Int64) (a4 : Int64) (μ : Mm) : mm_Mi l D cA adr sM NM mm_SM yX7_may cX7_may 10 (some .boolean) rX7_may [.long a0, .long a1, .long a2, .long a3, .long a4] μ (fX7_may a0 a1 a2 a3 a4 μ) := by
  refine mm_entryi hJ mm_okM (by decide) (Nat.le_of_ble_eq_true rfl) ⟨rfl, rfl⟩ (fun p e s m below meth c X hr => ?_)
  generalize ([.long a0, .long a1, .long a2, .long a3, .long a4] : List Value).toArray = args at X ⊢
  refine gx_lv (lv' := [(0, .long a0), (2, .long a1), (4, .long a2), (6, .long a3), (8, .long a4)]) rfl ?_
  unfold fX7_may
  refine gx_lload_n X 0 1 0 dX7_may_0 rfl rfl rfl ?_
  refine gx_lconst X 1 2 (0) dX7_may_1 rfl cl_0 ?_
  refine gx_ldc2_w X 2 5 wk_X7_116 dX7_may_2 rfl ?_
  refine gx_calliS X 5 8 (rest := []) (As := [.long a0, .long 0, .long 499]) (tX7_in hJ a0 0 499 μ) wc_X7_in wl_X7_101 wt_X7_in wn_X7 hd_X7_in ⟨Nat.le_of_ble_eq_true rfl, Nat.le_of_ble_eq_true rfl⟩ ⟨rfl, rfl⟩ rfl rfl (Nat.le_of_ble_eq_true rfl) dX7_may_5 rfl (fun x1 m2 => ?_)
  refine gx_jn (fun (k : Int32 → Mm → Aa) => ∀ (x3 : Int32) (m4 : Mm), mm_G p l e rX7_may s m args below meth c 10 D cA adr sM NM (mm_Qi D cA adr sM NM) m4 61 [] [.int x3] (k x3 m4)) ?_ (fun k_61 hk_61 => ?_)
  · intro x3 m4
    exact gx_zret X 61 hr dX7_may_61
  refine gx_jn (fun (k : Mm → Aa) => ∀ (m5 : Mm), mm_G p l e rX7_may s m args below meth c 10 D cA adr sM NM (mm_Qi D cA adr sM NM) m5 60 [] [] (k m5)) ?_ (fun k_60 hk_60 => ?_)
  · intro m5
    refine gx_iconst X 60 61 (0) dX7_may_60 rfl ci_0 ?_
    exact hk_61 0 m5
  refine gx_if_eq X 8 60 11 dX7_may_8 rfl rfl ?_ ?_
  · refine gx_sub [] rfl ?_
    exact hk_60 m2
  refine gx_lload_n X 11 12 1 dX7_may_11 rfl rfl rfl ?_
  refine gx_lconst X 12 13 (0) dX7_may_12 rfl cl_0 ?_
  refine gx_lconst X 13 14 (1) dX7_may_13 rfl cl_1 ?_
  refine gx_calliS X 14 17 (rest := []) (As := [.long a1, .long 0, .long 1]) (tX7_in hJ a1 0 1 m2) wc_X7_in wl_X7_101 wt_X7_in wn_X7 hd_X7_in ⟨Nat.le_of_ble_eq_true rfl, Nat.le_of_ble_eq_true rfl⟩ ⟨rfl, rfl⟩ rfl rfl (Nat.le_of_ble_eq_true rfl) dX7_may_14 rfl (fun x6 m7 => ?_)
  refine gx_if_eq X 17 60 20 dX7_may_17 rfl rfl ?_ ?_
  · refine gx_sub [] rfl ?_
    exact hk_60 m7
  refine gx_lload X 20 22 2 dX7_may_20 rfl rfl ?_
  refine gx_lconst X 22 23 (0) dX7_may_22 rfl cl_0 ?_
  refine gx_ldc2_w X 23 26 wk_X7_118 dX7_may_23 rfl ?_
  refine gx_calliS X 26 29 (rest := []) (As := [.long a2, .long 0, .long 3]) (tX7_in hJ a2 0 3 m7) wc_X7_in wl_X7_101 wt_X7_in wn_X7 hd_X7_in ⟨Nat.le_of_ble_eq_true rfl, Nat.le_of_ble_eq_true rfl⟩ ⟨rfl, rfl⟩ rfl rfl (Nat.le_of_ble_eq_true rfl) dX7_may_26 rfl (fun x8 m9 => ?_)
  refine gx_if_eq X 29 60 32 dX7_may_29 rfl rfl ?_ ?_
  · refine gx_sub [] rfl ?_
    exact hk_60 m9
  refine gx_lload X 32 34 3 dX7_may_32 rfl rfl ?_
  refine gx_lconst X 34 35 (1) dX7_may_34 rfl cl_1 ?_
  refine gx_ldc2_w X 35 38 wk_X7_120 dX7_may_35 rfl ?_
  refine gx_calliS X 38 41 (rest := []) (As := [.long a3, .long 1, .long 20]) (tX7_in hJ a3 1 20 m9) wc_X7_in wl_X7_101 wt_X7_in wn_X7 hd_X7_in ⟨Nat.le_of_ble_eq_true rfl, Nat.le_of_ble_eq_true rfl⟩ ⟨rfl, rfl⟩ rfl rfl (Nat.le_of_ble_eq_true rfl) dX7_may_38 rfl (fun x10 m11 => ?_)
  refine gx_if_eq X 41 60 44 dX7_may_41 rfl rfl ?_ ?_
  · refine gx_sub [] rfl ?_
    exact hk_60 m11
  refine gx_lload X 44 46 4 dX7_may_44 rfl rfl ?_
  refine gx_lconst X 46 47 (1) dX7_may_46 rfl cl_1 ?_
  refine gx_ldc2_w X 47 50 wk_X7_122 dX7_may_47 rfl ?_
  refine gx_calliS X 50 53 (rest := []) (As := [.long a4, .long 1, .long 6]) (tX7_in hJ a4 1 6 m11) wc_X7_in wl_X7_101 wt_X7_in wn_X7 hd_X7_in ⟨Nat.le_of_ble_eq_true rfl, Nat.le_of_ble_eq_true rfl⟩ ⟨rfl, rfl⟩ rfl rfl (Nat.le_of_ble_eq_true rfl) dX7_may_50 rfl (fun x12 m13 => ?_)
  refine gx_if_eq X 53 60 56 dX7_may_53 rfl rfl ?_ ?_
  · refine gx_sub [] rfl ?_
    exact hk_60 m13
  refine gx_iconst X 56 57 (1) dX7_may_56 rfl ci_1 ?_
  refine gx_goto X 57 61 dX7_may_57 rfl ?_
  refine gx_sub [] rfl ?_
  exact hk_61 1 m13
def fX7_add (a1 : Int32) (a2 : Int32) (a3 : Int32) (a4 : Int32) (a5 : Int32) (μ : Mm) : Aa := mm_lt (7 * (μ 0 1)) (fun (x1 : Int32) => mm_ck x1 70 (mm_lt (mm_wr μ 1 x1.toNatClampNeg a1) (fun (m2 : Mm) => mm_ck (x1 + 1) 70 (mm_lt (mm_wr m2 1 (x1 + 1).toNatClampNeg a2) (fun (m3 : Mm) => mm_ck (x1 + 2) 70 (mm_lt (mm_wr m3 1 (x1 + 2).toNatClampNeg a3) (fun (m4 : Mm) => mm_ck (x1 + 3) 70 (mm_lt (mm_wr m4 1 (x1 + 3).toNatClampNeg a4) (fun (m5 : Mm) => mm_ck (x1 + 4) 70 (mm_lt (mm_wr m5 1 (x1 + 4).toNatClampNeg a5) (fun (m6 : Mm) => mm_ck (x1 + 5) 70 (mm_lt (mm_wr m6 1 (x1 + 5).toNatClampNeg 0) (fun (m7 : Mm) => mm_ck (x1 + 6) 70 (mm_lt (mm_wr m7 1 (x1 + 6).toNatClampNeg ((-4))) (fun (m8 : Mm) => mm_lt (mm_wr m8 0 1 ((m8 0 1) + 1)) (fun (m9 : Mm) => some (0, m9)))))))))))))))))
abbrev rX7_add : Room := { frames := 0, cells := 0, slots := 0, locals := 0 }
set_option maxRecDepth 100000 in
set_option maxHeartbeats 8000000 in
theorem tX7_add {l : Launch} {D : va_G} {cA : Nat → ClassId} {adr : Nat → Nat} (hJ : mm_J adr NM) (a1 : Int32) (a2 : Int32) (a3 : Int32) (a4 : Int32) (a5 : Int32) (μ : Mm) : mm_Mv l D cA adr sM NM mm_SM yX7_add cX7_add 7 none rX7_add [.ref (adr 0), .int a1, .int a2, .int a3, .int a4, .int a5] μ (fX7_add a1 a2 a3 a4 a5 μ) := by
  refine mm_entryv hJ mm_okM (by decide) (Nat.le_of_ble_eq_true rfl) ⟨rfl, rfl⟩ (fun p e s m below meth c X hr => ?_)
  generalize ([.ref (adr 0), .int a1, .int a2, .int a3, .int a4, .int a5] : List Value).toArray = args at X ⊢
  refine gx_lv (lv' := [(0, .ref (adr 0)), (1, .int a1), (2, .int a2), (3, .int a3), (4, .int a4), (5, .int a5)]) rfl ?_
  unfold fX7_add
  refine gx_bipush X 0 2 (7) dX7_add_0 rfl cb_7 ?_
  refine gx_aload_n X 2 3 0 dX7_add_2 rfl rfl rfl ?_
  refine gx_getI X 3 6 0 (by decide) rfl rfl fg_X7_98 dX7_add_3 rfl ?_
  refine gx_imul X 6 7 dX7_add_6 rfl ?_
  refine gx_istore X 7 9 (fun x1 => [(6, .int x1), (0, .ref (adr 0)), (1, .int a1), (2, .int a2), (3, .int a3), (4, .int a4), (5, .int a5)]) dX7_add_7 rfl (by decide) (fun _ => rfl) (fun x1 => ?_)
  refine gx_aload_n X 9 10 1 dX7_add_9 rfl rfl rfl ?_
  refine gx_getR X 10 13 0 (by decide) rfl rfl fg_X7_7 dX7_add_10 rfl ?_
  refine gx_iload X 13 15 0 dX7_add_13 rfl rfl ?_
  refine gx_iload_n X 15 16 2 dX7_add_15 rfl rfl rfl ?_
  refine gx_iastore X 16 17 1 (by decide) rfl dX7_add_16 rfl (fun m2 => ?_)
  refine gx_aload_n X 17 18 1 dX7_add_17 rfl rfl rfl ?_
  refine gx_getR X 18 21 0 (by decide) rfl rfl fg_X7_7 dX7_add_18 rfl ?_
  refine gx_iload X 21 23 0 dX7_add_21 rfl rfl ?_
  refine gx_iconst X 23 24 (1) dX7_add_23 rfl ci_1 ?_
  refine gx_iadd X 24 25 dX7_add_24 rfl ?_
  refine gx_iload_n X 25 26 3 dX7_add_25 rfl rfl rfl ?_
  refine gx_iastore X 26 27 1 (by decide) rfl dX7_add_26 rfl (fun m3 => ?_)
  refine gx_aload_n X 27 28 1 dX7_add_27 rfl rfl rfl ?_
  refine gx_getR X 28 31 0 (by decide) rfl rfl fg_X7_7 dX7_add_28 rfl ?_
  refine gx_iload X 31 33 0 dX7_add_31 rfl rfl ?_
  refine gx_iconst X 33 34 (2) dX7_add_33 rfl ci_2 ?_
  refine gx_iadd X 34 35 dX7_add_34 rfl ?_
  refine gx_iload_n X 35 36 4 dX7_add_35 rfl rfl rfl ?_
  refine gx_iastore X 36 37 1 (by decide) rfl dX7_add_36 rfl (fun m4 => ?_)
  refine gx_aload_n X 37 38 1 dX7_add_37 rfl rfl rfl ?_
  refine gx_getR X 38 41 0 (by decide) rfl rfl fg_X7_7 dX7_add_38 rfl ?_
  refine gx_iload X 41 43 0 dX7_add_41 rfl rfl ?_
  refine gx_iconst X 43 44 (3) dX7_add_43 rfl ci_3 ?_
  refine gx_iadd X 44 45 dX7_add_44 rfl ?_
  refine gx_iload X 45 47 5 dX7_add_45 rfl rfl ?_
  refine gx_iastore X 47 48 1 (by decide) rfl dX7_add_47 rfl (fun m5 => ?_)
  refine gx_aload_n X 48 49 1 dX7_add_48 rfl rfl rfl ?_
  refine gx_getR X 49 52 0 (by decide) rfl rfl fg_X7_7 dX7_add_49 rfl ?_
  refine gx_iload X 52 54 0 dX7_add_52 rfl rfl ?_
  refine gx_iconst X 54 55 (4) dX7_add_54 rfl ci_4 ?_
  refine gx_iadd X 55 56 dX7_add_55 rfl ?_
  refine gx_iload X 56 58 6 dX7_add_56 rfl rfl ?_
  refine gx_iastore X 58 59 1 (by decide) rfl dX7_add_58 rfl (fun m6 => ?_)
  refine gx_aload_n X 59 60 1 dX7_add_59 rfl rfl rfl ?_
  refine gx_getR X 60 63 0 (by decide) rfl rfl fg_X7_7 dX7_add_60 rfl ?_
  refine gx_iload X 63 65 0 dX7_add_63 rfl rfl ?_
  refine gx_iconst X 65 66 (5) dX7_add_65 rfl ci_5 ?_
  refine gx_iadd X 66 67 dX7_add_66 rfl ?_
  refine gx_iconst X 67 68 (0) dX7_add_67 rfl ci_0 ?_
  refine gx_iastore X 68 69 1 (by decide) rfl dX7_add_68 rfl (fun m7 => ?_)
  refine gx_aload_n X 69 70 1 dX7_add_69 rfl rfl rfl ?_
  refine gx_getR X 70 73 0 (by decide) rfl rfl fg_X7_7 dX7_add_70 rfl ?_
  refine gx_iload X 73 75 0 dX7_add_73 rfl rfl ?_
  refine gx_bipush X 75 77 (6) dX7_add_75 rfl cb_6 ?_
  refine gx_iadd X 77 78 dX7_add_77 rfl ?_
  refine gx_bipush X 78 80 (-4) dX7_add_78 rfl cb_m4 ?_
  refine gx_iastore X 80 81 1 (by decide) rfl dX7_add_80 rfl (fun m8 => ?_)
  refine gx_aload_n X 81 82 1 dX7_add_81 rfl rfl rfl ?_
  refine gx_dup X 82 83 dX7_add_82 rfl rfl ?_
  refine gx_getI X 83 86 0 (by decide) rfl rfl fg_X7_98 dX7_add_83 rfl ?_
  refine gx_iconst X 86 87 (1) dX7_add_86 rfl ci_1 ?_
  refine gx_iadd X 87 88 dX7_add_87 rfl ?_
  refine gx_putI X 88 91 0 (by decide) rfl rfl fp_X7_98 dX7_add_88 rfl (fun m9 => ?_)
  exact gx_vret X 91 hr dX7_add_91
def fX7_person (a1 : Int32) (a2 : Int32) (a3 : Int32) (a4 : Int32) (a5 : Int32) (μ : Mm) : Aa := mm_cl (fX7_may a1.toInt64 a2.toInt64 a3.toInt64 a4.toInt64 a5.toInt64 μ) (fun (x1 : Int32) (m2 : Mm) => if x1 = 0 then (some ((-1), m2)) else (if (m2 0 1) = 10 then (some ((-3), m2)) else (mm_cl (fX7_add a1 a2 a3 a4 a5 m2) (fun (x3 : Int32) (m4 : Mm) => some ((m4 0 1) - 1, m4)))))
abbrev rX7_person : Room := { frames := 2, cells := 0, slots := 0, locals := 54 }
set_option maxRecDepth 100000 in
set_option maxHeartbeats 8000000 in
theorem tX7_person {l : Launch} {D : va_G} {cA : Nat → ClassId} {adr : Nat → Nat} (hJ : mm_J adr NM) (a1 : Int32) (a2 : Int32) (a3 : Int32) (a4 : Int32) (a5 : Int32) (μ : Mm) : mm_Mi l D cA adr sM NM mm_SM yX7_person cX7_person 6 (some .int) rX7_person [.ref (adr 0), .int a1, .int a2, .int a3, .int a4, .int a5] μ (fX7_person a1 a2 a3 a4 a5 μ) := by
  refine mm_entryi hJ mm_okM (by decide) (Nat.le_of_ble_eq_true rfl) ⟨rfl, rfl⟩ (fun p e s m below meth c X hr => ?_)
  generalize ([.ref (adr 0), .int a1, .int a2, .int a3, .int a4, .int a5] : List Value).toArray = args at X ⊢
  refine gx_lv (lv' := [(0, .ref (adr 0)), (1, .int a1), (2, .int a2), (3, .int a3), (4, .int a4), (5, .int a5)]) rfl ?_
  unfold fX7_person
  refine gx_iload_n X 0 1 1 dX7_person_0 rfl rfl rfl ?_
  refine gx_i2l X 1 2 dX7_person_1 rfl ?_
  refine gx_iload_n X 2 3 2 dX7_person_2 rfl rfl rfl ?_
  refine gx_i2l X 3 4 dX7_person_3 rfl ?_
  refine gx_iload_n X 4 5 3 dX7_person_4 rfl rfl rfl ?_
  refine gx_i2l X 5 6 dX7_person_5 rfl ?_
  refine gx_iload X 6 8 4 dX7_person_6 rfl rfl ?_
  refine gx_i2l X 8 9 dX7_person_8 rfl ?_
  refine gx_iload X 9 11 5 dX7_person_9 rfl rfl ?_
  refine gx_i2l X 11 12 dX7_person_11 rfl ?_
  refine gx_calliS X 12 15 (rest := []) (As := [.long a1.toInt64, .long a2.toInt64, .long a3.toInt64, .long a4.toInt64, .long a5.toInt64]) (tX7_may hJ a1.toInt64 a2.toInt64 a3.toInt64 a4.toInt64 a5.toInt64 μ) wc_X7_may wl_X7_124 wt_X7_may wn_X7 hd_X7_may ⟨Nat.le_of_ble_eq_true rfl, Nat.le_of_ble_eq_true rfl⟩ ⟨rfl, rfl⟩ rfl rfl (Nat.le_of_ble_eq_true rfl) dX7_person_12 rfl (fun x1 m2 => ?_)
  refine gx_if_ne X 15 20 18 dX7_person_15 rfl rfl ?_ ?_
  · refine gx_aload_n X 20 21 0 dX7_person_20 rfl rfl rfl ?_
    refine gx_getI X 21 24 0 (by decide) rfl rfl fg_X7_98 dX7_person_21 rfl ?_
    refine gx_bipush X 24 26 (10) dX7_person_24 rfl cb_10 ?_
    refine gx_icmp_ne X 26 32 29 dX7_person_26 rfl rfl ?_ ?_
    · refine gx_aload_n X 32 33 0 dX7_person_32 rfl rfl rfl ?_
      refine gx_iload_n X 33 34 1 dX7_person_33 rfl rfl rfl ?_
      refine gx_iload_n X 34 35 2 dX7_person_34 rfl rfl rfl ?_
      refine gx_iload_n X 35 36 3 dX7_person_35 rfl rfl rfl ?_
      refine gx_iload X 36 38 4 dX7_person_36 rfl rfl ?_
      refine gx_iload X 38 40 5 dX7_person_38 rfl rfl ?_
      refine gx_callvV X 40 43 0 (rest := []) (As := [.int a1, .int a2, .int a3, .int a4, .int a5]) (tX7_add hJ a1 a2 a3 a4 a5 m2) (by decide) rfl rfl wc_X7_add wl_X7_128 wi_X7_add ws_X7_add wn_X7 rfl hd_X7_add ⟨Nat.le_of_ble_eq_true rfl, Nat.le_of_ble_eq_true rfl⟩ ⟨rfl, rfl⟩ rfl rfl (Nat.le_of_ble_eq_true rfl) dX7_person_40 rfl (fun x3 m4 => ?_)
      refine gx_aload_n X 43 44 0 dX7_person_43 rfl rfl rfl ?_
      refine gx_getI X 44 47 0 (by decide) rfl rfl fg_X7_98 dX7_person_44 rfl ?_
      refine gx_iconst X 47 48 (1) dX7_person_47 rfl ci_1 ?_
      refine gx_isub X 48 49 dX7_person_48 rfl ?_
      exact gx_iret X 49 hr dX7_person_49
    refine gx_bipush X 29 31 (-3) dX7_person_29 rfl cb_m3 ?_
    exact gx_iret X 31 hr dX7_person_31
  refine gx_iconst X 18 19 (-1) dX7_person_18 rfl ci_m1 ?_
  exact gx_iret X 19 hr dX7_person_19
def fX7_paceOf (a1 : Int32) (μ : Mm) : Aa := mm_ck ((7 * a1) + 2) 70 (mm_lt (μ 1 ((7 * a1) + 2).toNatClampNeg) (fun (x1 : Int32) => mm_ck ((7 * a1) + 3) 70 (mm_lt (μ 1 ((7 * a1) + 3).toNatClampNeg) (fun (x2 : Int32) => mm_lt (fun (x3 : Int32) (m4 : Mm) => some (x3, m4)) (fun (k_56 : Int32 → Mm → Aa) => mm_lt (fun (m5 : Mm) => k_56 (2 * x2) m5) (fun (k_34 : Mm → Aa) => if x1 = 1 then (k_34 μ) else (if x1 = 3 then (k_34 μ) else (if x1 = 2 then (mm_nz 2 (mm_cl (fX7_most 1 (x2 / 2) μ) (fun (x6 : Int32) (m7 : Mm) => k_56 x6 m7))) else (k_56 x2 μ)))))))))
abbrev rX7_paceOf : Room := { frames := 1, cells := 0, slots := 0, locals := 21 }
set_option maxRecDepth 100000 in
set_option maxHeartbeats 8000000 in
theorem tX7_paceOf {l : Launch} {D : va_G} {cA : Nat → ClassId} {adr : Nat → Nat} (hJ : mm_J adr NM) (a1 : Int32) (μ : Mm) : mm_Mi l D cA adr sM NM mm_SM yX7_paceOf cX7_paceOf 4 (some .int) rX7_paceOf [.ref (adr 0), .int a1] μ (fX7_paceOf a1 μ) := by
  refine mm_entryi hJ mm_okM (by decide) (Nat.le_of_ble_eq_true rfl) ⟨rfl, rfl⟩ (fun p e s m below meth c X hr => ?_)
  generalize ([.ref (adr 0), .int a1] : List Value).toArray = args at X ⊢
  refine gx_lv (lv' := [(0, .ref (adr 0)), (1, .int a1)]) rfl ?_
  unfold fX7_paceOf
  refine gx_aload_n X 0 1 0 dX7_paceOf_0 rfl rfl rfl ?_
  refine gx_getR X 1 4 0 (by decide) rfl rfl fg_X7_7 dX7_paceOf_1 rfl ?_
  refine gx_bipush X 4 6 (7) dX7_paceOf_4 rfl cb_7 ?_
  refine gx_iload_n X 6 7 1 dX7_paceOf_6 rfl rfl rfl ?_
  refine gx_imul X 7 8 dX7_paceOf_7 rfl ?_
  refine gx_iconst X 8 9 (2) dX7_paceOf_8 rfl ci_2 ?_
  refine gx_iadd X 9 10 dX7_paceOf_9 rfl ?_
  refine gx_iaload X 10 11 1 (by decide) rfl dX7_paceOf_10 rfl ?_
  refine gx_istore_n X 11 12 (fun x1 => [(2, .int x1), (0, .ref (adr 0)), (1, .int a1)]) dX7_paceOf_11 rfl rfl (by decide) (fun _ => rfl) (fun x1 => ?_)
  refine gx_aload_n X 12 13 1 dX7_paceOf_12 rfl rfl rfl ?_
  refine gx_getR X 13 16 0 (by decide) rfl rfl fg_X7_7 dX7_paceOf_13 rfl ?_
  refine gx_bipush X 16 18 (7) dX7_paceOf_16 rfl cb_7 ?_
  refine gx_iload_n X 18 19 2 dX7_paceOf_18 rfl rfl rfl ?_
  refine gx_imul X 19 20 dX7_paceOf_19 rfl ?_
  refine gx_iconst X 20 21 (3) dX7_paceOf_20 rfl ci_3 ?_
  refine gx_iadd X 21 22 dX7_paceOf_21 rfl ?_
  refine gx_iaload X 22 23 1 (by decide) rfl dX7_paceOf_22 rfl ?_
  refine gx_istore_n X 23 24 (fun x2 => [(3, .int x2), (2, .int x1), (0, .ref (adr 0)), (1, .int a1)]) dX7_paceOf_23 rfl rfl (by decide) (fun _ => rfl) (fun x2 => ?_)
  refine gx_iload_n X 24 25 1 dX7_paceOf_24 rfl rfl rfl ?_
  refine gx_iconst X 25 26 (1) dX7_paceOf_25 rfl ci_1 ?_
  refine gx_jn (fun (k : Int32 → Mm → Aa) => ∀ (x3 : Int32) (m4 : Mm), mm_G p l e rX7_paceOf s m args below meth c 4 D cA adr sM NM (mm_Qi D cA adr sM NM) m4 56 [] [.int x3] (k x3 m4)) ?_ (fun k_56 hk_56 => ?_)
  · intro x3 m4
    exact gx_iret X 56 hr dX7_paceOf_56
  refine gx_jn (fun (k : Mm → Aa) => ∀ (m5 : Mm), mm_G p l e rX7_paceOf s m args below meth c 4 D cA adr sM NM (mm_Qi D cA adr sM NM) m5 34 [(3, .int x2)] [] (k m5)) ?_ (fun k_34 hk_34 => ?_)
  · intro m5
    refine gx_iconst X 34 35 (2) dX7_paceOf_34 rfl ci_2 ?_
    refine gx_iload_n X 35 36 0 dX7_paceOf_35 rfl rfl rfl ?_
    refine gx_imul X 36 37 dX7_paceOf_36 rfl ?_
    refine gx_goto X 37 56 dX7_paceOf_37 rfl ?_
    refine gx_sub [] rfl ?_
    exact hk_56 (2 * x2) m5
  refine gx_icmp_eq X 26 34 29 dX7_paceOf_26 rfl rfl ?_ ?_
  · refine gx_sub [0] rfl ?_
    exact hk_34 μ
  refine gx_iload_n X 29 30 1 dX7_paceOf_29 rfl rfl rfl ?_
  refine gx_iconst X 30 31 (3) dX7_paceOf_30 rfl ci_3 ?_
  refine gx_icmp_ne X 31 40 34 dX7_paceOf_31 rfl rfl ?_ ?_
  · refine gx_iload_n X 40 41 1 dX7_paceOf_40 rfl rfl rfl ?_
    refine gx_iconst X 41 42 (2) dX7_paceOf_41 rfl ci_2 ?_
    refine gx_icmp_ne X 42 55 45 dX7_paceOf_42 rfl rfl ?_ ?_
    · refine gx_iload_n X 55 56 0 dX7_paceOf_55 rfl rfl rfl ?_
      refine gx_sub [] rfl ?_
      exact hk_56 x2 μ
    refine gx_iconst X 45 46 (1) dX7_paceOf_45 rfl ci_1 ?_
    refine gx_iload_n X 46 47 0 dX7_paceOf_46 rfl rfl rfl ?_
    refine gx_iconst X 47 48 (2) dX7_paceOf_47 rfl ci_2 ?_
    refine gx_idiv X 48 49 dX7_paceOf_48 rfl ?_
    refine gx_calliS X 49 52 (rest := []) (As := [.int 1, .int (x2 / 2)]) (tX7_most hJ 1 (x2 / 2) μ) wc_X7_most wl_X7_132 wt_X7_most wn_X7 hd_X7_most ⟨Nat.le_of_ble_eq_true rfl, Nat.le_of_ble_eq_true rfl⟩ ⟨rfl, rfl⟩ rfl rfl (Nat.le_of_ble_eq_true rfl) dX7_paceOf_49 rfl (fun x6 m7 => ?_)
    refine gx_goto X 52 56 dX7_paceOf_52 rfl ?_
    refine gx_sub [] rfl ?_
    exact hk_56 x6 m7
  refine gx_sub [0] rfl ?_
  exact hk_34 μ
def fX7_told (a1 : Int32) (a2 : Int32) (μ : Mm) : Aa := mm_cl (fX7_isPerson a1 μ) (fun (x1 : Int32) (m2 : Mm) => mm_lt (fun (x3 : Int32) (m4 : Mm) => some (x3, m4)) (fun (k_48 : Int32 → Mm → Aa) => mm_lt (fun (m5 : Mm) => k_48 ((-1)) m5) (fun (k_20 : Mm → Aa) => if x1 = 0 then (k_20 m2) else (mm_cl (fX7_in a2.toInt64 0 6 m2) (fun (x6 : Int32) (m7 : Mm) => if x6 = 0 then (k_20 m7) else (if a2 = 3 then (mm_cl (fX7_paceOf a1 m7) (fun (x8 : Int32) (m9 : Mm) => k_48 x8 m9)) else (mm_ck ((7 * a1) + a2) 70 (k_48 (m7 1 ((7 * a1) + a2).toNatClampNeg) m7))))))))
abbrev rX7_told : Room := { frames := 2, cells := 0, slots := 0, locals := 46 }
set_option maxRecDepth 100000 in
set_option maxHeartbeats 8000000 in
theorem tX7_told {l : Launch} {D : va_G} {cA : Nat → ClassId} {adr : Nat → Nat} (hJ : mm_J adr NM) (a1 : Int32) (a2 : Int32) (μ : Mm) : mm_Mi l D cA adr sM NM mm_SM yX7_told cX7_told 3 (some .int) rX7_told [.ref (adr 0), .int a1, .int a2] μ (fX7_told a1 a2 μ) := by
  refine mm_entryi hJ mm_okM (by decide) (Nat.le_of_ble_eq_true rfl) ⟨rfl, rfl⟩ (fun p e s m below meth c X hr => ?_)
  generalize ([.ref (adr 0), .int a1, .int a2] : List Value).toArray = args at X ⊢
  refine gx_lv (lv' := [(0, .ref (adr 0)), (1, .int a1), (2, .int a2)]) rfl ?_
  unfold fX7_told
  refine gx_aload_n X 0 1 0 dX7_told_0 rfl rfl rfl ?_
  refine gx_iload_n X 1 2 1 dX7_told_1 rfl rfl rfl ?_
  refine gx_calliV X 2 5 0 (rest := []) (As := [.int a1]) (tX7_isPerson hJ a1 μ) (by decide) rfl rfl wc_X7_isPerson wl_X7_136 wi_X7_isPerson ws_X7_isPerson wn_X7 rfl hd_X7_isPerson ⟨Nat.le_of_ble_eq_true rfl, Nat.le_of_ble_eq_true rfl⟩ ⟨rfl, rfl⟩ rfl rfl (Nat.le_of_ble_eq_true rfl) dX7_told_2 rfl (fun x1 m2 => ?_)
  refine gx_jn (fun (k : Int32 → Mm → Aa) => ∀ (x3 : Int32) (m4 : Mm), mm_G p l e rX7_told s m args below meth c 3 D cA adr sM NM (mm_Qi D cA adr sM NM) m4 48 [] [.int x3] (k x3 m4)) ?_ (fun k_48 hk_48 => ?_)
  · intro x3 m4
    exact gx_iret X 48 hr dX7_told_48
  refine gx_jn (fun (k : Mm → Aa) => ∀ (m5 : Mm), mm_G p l e rX7_told s m args below meth c 3 D cA adr sM NM (mm_Qi D cA adr sM NM) m5 20 [] [] (k m5)) ?_ (fun k_20 hk_20 => ?_)
  · intro m5
    refine gx_iconst X 20 21 (-1) dX7_told_20 rfl ci_m1 ?_
    refine gx_goto X 21 48 dX7_told_21 rfl ?_
    exact hk_48 ((-1)) m5
  refine gx_if_eq X 5 20 8 dX7_told_5 rfl rfl ?_ ?_
  · refine gx_sub [] rfl ?_
    exact hk_20 m2
  refine gx_iload_n X 8 9 2 dX7_told_8 rfl rfl rfl ?_
  refine gx_i2l X 9 10 dX7_told_9 rfl ?_
  refine gx_lconst X 10 11 (0) dX7_told_10 rfl cl_0 ?_
  refine gx_ldc2_w X 11 14 wk_X7_122 dX7_told_11 rfl ?_
  refine gx_calliS X 14 17 (rest := []) (As := [.long a2.toInt64, .long 0, .long 6]) (tX7_in hJ a2.toInt64 0 6 m2) wc_X7_in wl_X7_101 wt_X7_in wn_X7 hd_X7_in ⟨Nat.le_of_ble_eq_true rfl, Nat.le_of_ble_eq_true rfl⟩ ⟨rfl, rfl⟩ rfl rfl (Nat.le_of_ble_eq_true rfl) dX7_told_14 rfl (fun x6 m7 => ?_)
  refine gx_if_ne X 17 24 20 dX7_told_17 rfl rfl ?_ ?_
  · refine gx_iload_n X 24 25 2 dX7_told_24 rfl rfl rfl ?_
    refine gx_iconst X 25 26 (3) dX7_told_25 rfl ci_3 ?_
    refine gx_icmp_ne X 26 37 29 dX7_told_26 rfl rfl ?_ ?_
    · refine gx_aload_n X 37 38 0 dX7_told_37 rfl rfl rfl ?_
      refine gx_getR X 38 41 0 (by decide) rfl rfl fg_X7_7 dX7_told_38 rfl ?_
      refine gx_bipush X 41 43 (7) dX7_told_41 rfl cb_7 ?_
      refine gx_iload_n X 43 44 1 dX7_told_43 rfl rfl rfl ?_
      refine gx_imul X 44 45 dX7_told_44 rfl ?_
      refine gx_iload_n X 45 46 2 dX7_told_45 rfl rfl rfl ?_
      refine gx_iadd X 46 47 dX7_told_46 rfl ?_
      refine gx_iaload X 47 48 1 (by decide) rfl dX7_told_47 rfl ?_
      refine gx_sub [] rfl ?_
      exact hk_48 (m7 1 ((7 * a1) + a2).toNatClampNeg) m7
    refine gx_aload_n X 29 30 0 dX7_told_29 rfl rfl rfl ?_
    refine gx_iload_n X 30 31 1 dX7_told_30 rfl rfl rfl ?_
    refine gx_calliV X 31 34 0 (rest := []) (As := [.int a1]) (tX7_paceOf hJ a1 m7) (by decide) rfl rfl wc_X7_paceOf wl_X7_140 wi_X7_paceOf ws_X7_paceOf wn_X7 rfl hd_X7_paceOf ⟨Nat.le_of_ble_eq_true rfl, Nat.le_of_ble_eq_true rfl⟩ ⟨rfl, rfl⟩ rfl rfl (Nat.le_of_ble_eq_true rfl) dX7_told_31 rfl (fun x8 m9 => ?_)
    refine gx_goto X 34 48 dX7_told_34 rfl ?_
    refine gx_sub [] rfl ?_
    exact hk_48 x8 m9
  refine gx_sub [] rfl ?_
  exact hk_20 m7
def fX7_stay (a1 : Int32) (a2 : Int32) (μ : Mm) : Aa := mm_cl (fX7_isPerson a1 μ) (fun (x1 : Int32) (m2 : Mm) => mm_lt (fun (m3 : Mm) => some ((-1), m3)) (fun (k_20 : Mm → Aa) => if x1 = 0 then (k_20 m2) else (mm_cl (fX7_in a2.toInt64 0 60 m2) (fun (x4 : Int32) (m5 : Mm) => if x4 = 0 then (k_20 m5) else (mm_ck ((7 * a1) + 5) 70 (mm_lt (m5 1 ((7 * a1) + 5).toNatClampNeg) (fun (x6 : Int32) => mm_ck ((7 * a1) + 5) 70 (mm_lt (mm_wr m5 1 ((7 * a1) + 5).toNatClampNeg a2) (fun (m7 : Mm) => some (x6, m7))))))))))
abbrev rX7_stay : Room := { frames := 2, cells := 0, slots := 0, locals := 46 }
set_option maxRecDepth 100000 in
set_option maxHeartbeats 8000000 in
theorem tX7_stay {l : Launch} {D : va_G} {cA : Nat → ClassId} {adr : Nat → Nat} (hJ : mm_J adr NM) (a1 : Int32) (a2 : Int32) (μ : Mm) : mm_Mi l D cA adr sM NM mm_SM yX7_stay cX7_stay 4 (some .int) rX7_stay [.ref (adr 0), .int a1, .int a2] μ (fX7_stay a1 a2 μ) := by
  refine mm_entryi hJ mm_okM (by decide) (Nat.le_of_ble_eq_true rfl) ⟨rfl, rfl⟩ (fun p e s m below meth c X hr => ?_)
  generalize ([.ref (adr 0), .int a1, .int a2] : List Value).toArray = args at X ⊢
  refine gx_lv (lv' := [(0, .ref (adr 0)), (1, .int a1), (2, .int a2)]) rfl ?_
  unfold fX7_stay
  refine gx_aload_n X 0 1 0 dX7_stay_0 rfl rfl rfl ?_
  refine gx_iload_n X 1 2 1 dX7_stay_1 rfl rfl rfl ?_
  refine gx_calliV X 2 5 0 (rest := []) (As := [.int a1]) (tX7_isPerson hJ a1 μ) (by decide) rfl rfl wc_X7_isPerson wl_X7_136 wi_X7_isPerson ws_X7_isPerson wn_X7 rfl hd_X7_isPerson ⟨Nat.le_of_ble_eq_true rfl, Nat.le_of_ble_eq_true rfl⟩ ⟨rfl, rfl⟩ rfl rfl (Nat.le_of_ble_eq_true rfl) dX7_stay_2 rfl (fun x1 m2 => ?_)
  refine gx_jn (fun (k : Mm → Aa) => ∀ (m3 : Mm), mm_G p l e rX7_stay s m args below meth c 4 D cA adr sM NM (mm_Qi D cA adr sM NM) m3 20 [] [] (k m3)) ?_ (fun k_20 hk_20 => ?_)
  · intro m3
    refine gx_iconst X 20 21 (-1) dX7_stay_20 rfl ci_m1 ?_
    exact gx_iret X 21 hr dX7_stay_21
  refine gx_if_eq X 5 20 8 dX7_stay_5 rfl rfl ?_ ?_
  · refine gx_sub [] rfl ?_
    exact hk_20 m2
  refine gx_iload_n X 8 9 2 dX7_stay_8 rfl rfl rfl ?_
  refine gx_i2l X 9 10 dX7_stay_9 rfl ?_
  refine gx_lconst X 10 11 (0) dX7_stay_10 rfl cl_0 ?_
  refine gx_ldc2_w X 11 14 wk_X7_143 dX7_stay_11 rfl ?_
  refine gx_calliS X 14 17 (rest := []) (As := [.long a2.toInt64, .long 0, .long 60]) (tX7_in hJ a2.toInt64 0 60 m2) wc_X7_in wl_X7_101 wt_X7_in wn_X7 hd_X7_in ⟨Nat.le_of_ble_eq_true rfl, Nat.le_of_ble_eq_true rfl⟩ ⟨rfl, rfl⟩ rfl rfl (Nat.le_of_ble_eq_true rfl) dX7_stay_14 rfl (fun x4 m5 => ?_)
  refine gx_if_ne X 17 22 20 dX7_stay_17 rfl rfl ?_ ?_
  · refine gx_aload_n X 22 23 0 dX7_stay_22 rfl rfl rfl ?_
    refine gx_getR X 23 26 0 (by decide) rfl rfl fg_X7_7 dX7_stay_23 rfl ?_
    refine gx_bipush X 26 28 (7) dX7_stay_26 rfl cb_7 ?_
    refine gx_iload_n X 28 29 1 dX7_stay_28 rfl rfl rfl ?_
    refine gx_imul X 29 30 dX7_stay_29 rfl ?_
    refine gx_iconst X 30 31 (5) dX7_stay_30 rfl ci_5 ?_
    refine gx_iadd X 31 32 dX7_stay_31 rfl ?_
    refine gx_iaload X 32 33 1 (by decide) rfl dX7_stay_32 rfl ?_
    refine gx_istore_n X 33 34 (fun x6 => [(3, .int x6), (0, .ref (adr 0)), (1, .int a1), (2, .int a2)]) dX7_stay_33 rfl rfl (by decide) (fun _ => rfl) (fun x6 => ?_)
    refine gx_aload_n X 34 35 1 dX7_stay_34 rfl rfl rfl ?_
    refine gx_getR X 35 38 0 (by decide) rfl rfl fg_X7_7 dX7_stay_35 rfl ?_
    refine gx_bipush X 38 40 (7) dX7_stay_38 rfl cb_7 ?_
    refine gx_iload_n X 40 41 2 dX7_stay_40 rfl rfl rfl ?_
    refine gx_imul X 41 42 dX7_stay_41 rfl ?_
    refine gx_iconst X 42 43 (5) dX7_stay_42 rfl ci_5 ?_
    refine gx_iadd X 43 44 dX7_stay_43 rfl ?_
    refine gx_iload_n X 44 45 3 dX7_stay_44 rfl rfl rfl ?_
    refine gx_iastore X 45 46 1 (by decide) rfl dX7_stay_45 rfl (fun m7 => ?_)
    refine gx_iload_n X 46 47 0 dX7_stay_46 rfl rfl rfl ?_
    exact gx_iret X 47 hr dX7_stay_47
  refine gx_sub [] rfl ?_
  exact hk_20 m5
def fX7_hold (a1 : Int32) (a2 : Int32) (μ : Mm) : Aa := mm_cl (fX7_isPerson a1 μ) (fun (x1 : Int32) (m2 : Mm) => mm_lt (fun (m3 : Mm) => some ((-1), m3)) (fun (k_31 : Mm → Aa) => if x1 = 0 then (k_31 m2) else (mm_cl (fX7_in a2.toInt64 ((-1)) (((m2 0 1) - 1).toInt64) m2) (fun (x4 : Int32) (m5 : Mm) => if x4 = 0 then (k_31 m5) else (if a2 = a1 then (k_31 m5) else (mm_ck ((7 * a1) + 6) 70 (mm_lt (m5 1 ((7 * a1) + 6).toNatClampNeg) (fun (x6 : Int32) => mm_lt (fun (x7 : Int32) (m8 : Mm) => mm_ck ((7 * a1) + 6) 70 (mm_lt (mm_wr m8 1 ((7 * a1) + 6).toNatClampNeg x7) (fun (m9 : Mm) => mm_lt (fun (x10 : Int32) (m11 : Mm) => some (x10, m11)) (fun (k_79 : Int32 → Mm → Aa) => if 0 ≤ x6 then (k_79 (1 + x6) m9) else (k_79 0 m9))))) (fun (k_67 : Int32 → Mm → Aa) => if 0 ≤ a2 then (k_67 a2 m5) else (k_67 ((-4)) m5))))))))))
abbrev rX7_hold : Room := { frames := 2, cells := 0, slots := 0, locals := 46 }
set_option maxRecDepth 100000 in
set_option maxHeartbeats 8000000 in
theorem tX7_hold {l : Launch} {D : va_G} {cA : Nat → ClassId} {adr : Nat → Nat} (hJ : mm_J adr NM) (a1 : Int32) (a2 : Int32) (μ : Mm) : mm_Mi l D cA adr sM NM mm_SM yX7_hold cX7_hold 4 (some .int) rX7_hold [.ref (adr 0), .int a1, .int a2] μ (fX7_hold a1 a2 μ) := by
  refine mm_entryi hJ mm_okM (by decide) (Nat.le_of_ble_eq_true rfl) ⟨rfl, rfl⟩ (fun p e s m below meth c X hr => ?_)
  generalize ([.ref (adr 0), .int a1, .int a2] : List Value).toArray = args at X ⊢
  refine gx_lv (lv' := [(0, .ref (adr 0)), (1, .int a1), (2, .int a2)]) rfl ?_
  unfold fX7_hold
  refine gx_aload_n X 0 1 0 dX7_hold_0 rfl rfl rfl ?_
  refine gx_iload_n X 1 2 1 dX7_hold_1 rfl rfl rfl ?_
  refine gx_calliV X 2 5 0 (rest := []) (As := [.int a1]) (tX7_isPerson hJ a1 μ) (by decide) rfl rfl wc_X7_isPerson wl_X7_136 wi_X7_isPerson ws_X7_isPerson wn_X7 rfl hd_X7_isPerson ⟨Nat.le_of_ble_eq_true rfl, Nat.le_of_ble_eq_true rfl⟩ ⟨rfl, rfl⟩ rfl rfl (Nat.le_of_ble_eq_true rfl) dX7_hold_2 rfl (fun x1 m2 => ?_)
  refine gx_jn (fun (k : Mm → Aa) => ∀ (m3 : Mm), mm_G p l e rX7_hold s m args below meth c 4 D cA adr sM NM (mm_Qi D cA adr sM NM) m3 31 [] [] (k m3)) ?_ (fun k_31 hk_31 => ?_)
  · intro m3
    refine gx_iconst X 31 32 (-1) dX7_hold_31 rfl ci_m1 ?_
    exact gx_iret X 32 hr dX7_hold_32
  refine gx_if_eq X 5 31 8 dX7_hold_5 rfl rfl ?_ ?_
  · refine gx_sub [] rfl ?_
    exact hk_31 m2
  refine gx_iload_n X 8 9 2 dX7_hold_8 rfl rfl rfl ?_
  refine gx_i2l X 9 10 dX7_hold_9 rfl ?_
  refine gx_ldc2_w X 10 13 wk_X7_145 dX7_hold_10 rfl ?_
  refine gx_aload_n X 13 14 0 dX7_hold_13 rfl rfl rfl ?_
  refine gx_getI X 14 17 0 (by decide) rfl rfl fg_X7_98 dX7_hold_14 rfl ?_
  refine gx_iconst X 17 18 (1) dX7_hold_17 rfl ci_1 ?_
  refine gx_isub X 18 19 dX7_hold_18 rfl ?_
  refine gx_i2l X 19 20 dX7_hold_19 rfl ?_
  refine gx_calliS X 20 23 (rest := []) (As := [.long a2.toInt64, .long ((-1)), .long (((m2 0 1) - 1).toInt64)]) (tX7_in hJ a2.toInt64 ((-1)) (((m2 0 1) - 1).toInt64) m2) wc_X7_in wl_X7_101 wt_X7_in wn_X7 hd_X7_in ⟨Nat.le_of_ble_eq_true rfl, Nat.le_of_ble_eq_true rfl⟩ ⟨rfl, rfl⟩ rfl rfl (Nat.le_of_ble_eq_true rfl) dX7_hold_20 rfl (fun x4 m5 => ?_)
  refine gx_if_eq X 23 31 26 dX7_hold_23 rfl rfl ?_ ?_
  · refine gx_sub [] rfl ?_
    exact hk_31 m5
  refine gx_iload_n X 26 27 2 dX7_hold_26 rfl rfl rfl ?_
  refine gx_iload_n X 27 28 1 dX7_hold_27 rfl rfl rfl ?_
  refine gx_icmp_ne X 28 33 31 dX7_hold_28 rfl rfl ?_ ?_
  · refine gx_aload_n X 33 34 0 dX7_hold_33 rfl rfl rfl ?_
    refine gx_getR X 34 37 0 (by decide) rfl rfl fg_X7_7 dX7_hold_34 rfl ?_
    refine gx_bipush X 37 39 (7) dX7_hold_37 rfl cb_7 ?_
    refine gx_iload_n X 39 40 1 dX7_hold_39 rfl rfl rfl ?_
    refine gx_imul X 40 41 dX7_hold_40 rfl ?_
    refine gx_bipush X 41 43 (6) dX7_hold_41 rfl cb_6 ?_
    refine gx_iadd X 43 44 dX7_hold_43 rfl ?_
    refine gx_iaload X 44 45 1 (by decide) rfl dX7_hold_44 rfl ?_
    refine gx_istore_n X 45 46 (fun x6 => [(3, .int x6), (0, .ref (adr 0)), (1, .int a1), (2, .int a2)]) dX7_hold_45 rfl rfl (by decide) (fun _ => rfl) (fun x6 => ?_)
    refine gx_aload_n X 46 47 1 dX7_hold_46 rfl rfl rfl ?_
    refine gx_getR X 47 50 0 (by decide) rfl rfl fg_X7_7 dX7_hold_47 rfl ?_
    refine gx_bipush X 50 52 (7) dX7_hold_50 rfl cb_7 ?_
    refine gx_iload_n X 52 53 2 dX7_hold_52 rfl rfl rfl ?_
    refine gx_imul X 53 54 dX7_hold_53 rfl ?_
    refine gx_bipush X 54 56 (6) dX7_hold_54 rfl cb_6 ?_
    refine gx_iadd X 56 57 dX7_hold_56 rfl ?_
    refine gx_iload_n X 57 58 3 dX7_hold_57 rfl rfl rfl ?_
    refine gx_jn (fun (k : Int32 → Mm → Aa) => ∀ (x7 : Int32) (m8 : Mm), mm_G p l e rX7_hold s m args below meth c 4 D cA adr sM NM (mm_Qi D cA adr sM NM) m8 67 [(3, .int x6)] [.int x7, .int ((7 * a1) + 6), .ref (adr 1)] (k x7 m8)) ?_ (fun k_67 hk_67 => ?_)
    · intro x7 m8
      refine gx_iastore X 67 68 1 (by decide) rfl dX7_hold_67 rfl (fun m9 => ?_)
      refine gx_iload_n X 68 69 0 dX7_hold_68 rfl rfl rfl ?_
      refine gx_jn (fun (k : Int32 → Mm → Aa) => ∀ (x10 : Int32) (m11 : Mm), mm_G p l e rX7_hold s m args below meth c 4 D cA adr sM NM (mm_Qi D cA adr sM NM) m11 79 [] [.int x10] (k x10 m11)) ?_ (fun k_79 hk_79 => ?_)
      · intro x10 m11
        exact gx_iret X 79 hr dX7_hold_79
      refine gx_if_ge X 69 76 72 dX7_hold_69 rfl rfl ?_ ?_
      · refine gx_iconst X 76 77 (1) dX7_hold_76 rfl ci_1 ?_
        refine gx_iload_n X 77 78 0 dX7_hold_77 rfl rfl rfl ?_
        refine gx_iadd X 78 79 dX7_hold_78 rfl ?_
        refine gx_sub [] rfl ?_
        exact hk_79 (1 + x6) m9
      refine gx_iconst X 72 73 (0) dX7_hold_72 rfl ci_0 ?_
      refine gx_goto X 73 79 dX7_hold_73 rfl ?_
      refine gx_sub [] rfl ?_
      exact hk_79 0 m9
    refine gx_if_ge X 58 66 61 dX7_hold_58 rfl rfl ?_ ?_
    · refine gx_iload_n X 66 67 3 dX7_hold_66 rfl rfl rfl ?_
      refine gx_sub [0] rfl ?_
      exact hk_67 a2 m5
    refine gx_bipush X 61 63 (-4) dX7_hold_61 rfl cb_m4 ?_
    refine gx_goto X 63 67 dX7_hold_63 rfl ?_
    refine gx_sub [0] rfl ?_
    exact hk_67 ((-4)) m5
  refine gx_sub [] rfl ?_
  exact hk_31 m5
def fX7_clear (μ : Mm) : Aa := mm_lt (μ 0 1) (fun (x1 : Int32) => mm_lt (mm_wr μ 0 1 0) (fun (m2 : Mm) => some (x1, m2)))
abbrev rX7_clear : Room := { frames := 0, cells := 0, slots := 0, locals := 0 }
set_option maxRecDepth 100000 in
set_option maxHeartbeats 8000000 in
theorem tX7_clear {l : Launch} {D : va_G} {cA : Nat → ClassId} {adr : Nat → Nat} (hJ : mm_J adr NM) (μ : Mm) : mm_Mi l D cA adr sM NM mm_SM yX7_clear cX7_clear 2 (some .int) rX7_clear [.ref (adr 0)] μ (fX7_clear μ) := by
  refine mm_entryi hJ mm_okM (by decide) (Nat.le_of_ble_eq_true rfl) ⟨rfl, rfl⟩ (fun p e s m below meth c X hr => ?_)
  generalize ([.ref (adr 0)] : List Value).toArray = args at X ⊢
  refine gx_lv (lv' := [(0, .ref (adr 0))]) rfl ?_
  unfold fX7_clear
  refine gx_aload_n X 0 1 0 dX7_clear_0 rfl rfl rfl ?_
  refine gx_getI X 1 4 0 (by decide) rfl rfl fg_X7_98 dX7_clear_1 rfl ?_
  refine gx_istore_n X 4 5 (fun x1 => [(1, .int x1), (0, .ref (adr 0))]) dX7_clear_4 rfl rfl (by decide) (fun _ => rfl) (fun x1 => ?_)
  refine gx_aload_n X 5 6 1 dX7_clear_5 rfl rfl rfl ?_
  refine gx_iconst X 6 7 (0) dX7_clear_6 rfl ci_0 ?_
  refine gx_putI X 7 10 0 (by decide) rfl rfl fp_X7_98 dX7_clear_7 rfl (fun m2 => ?_)
  refine gx_iload_n X 10 11 0 dX7_clear_10 rfl rfl rfl ?_
  exact gx_iret X 11 hr dX7_clear_11
def fX7_count_L7 (k_60 : Int32 → Int32 → Mm → Aa) (rec_7 : Int32 → Int32 → Int32 → Mm → Aa) (x9 : Int32) (x10 : Int32) (x11 : Int32) (m12 : Mm) : Aa := if (m12 0 1) ≤ x11 then (k_60 x9 x10 m12) else (mm_ck ((7 * x11) + 4) 70 (mm_lt (x9 + (m12 1 ((7 * x11) + 4).toNatClampNeg)) (fun (x13 : Int32) => mm_ck ((7 * x11) + 1) 70 (mm_lt (fun (x14 : Int32) (m15 : Mm) => mm_lt (x10 + x14) (fun (x16 : Int32) => mm_lt (x11 + 1) (fun (x17 : Int32) => rec_7 x13 x16 x17 m15))) (fun (k_52 : Int32 → Mm → Aa) => if (m12 1 ((7 * x11) + 1).toNatClampNeg) = 0 then (k_52 1 m12) else (k_52 0 m12))))))
def fX7_count (a1 : Int32) (μ : Mm) : Aa := mm_lt 0 (fun (x1 : Int32) => mm_lt 0 (fun (x2 : Int32) => mm_lt 0 (fun (x3 : Int32) => mm_lt (fun (x4 : Int32) (x5 : Int32) (m6 : Mm) => mm_lt (fun (x7 : Int32) (m8 : Mm) => some (x7, m8)) (fun (k_90 : Int32 → Mm → Aa) => if a1 = 0 then (k_90 (m6 0 1) m6) else (if a1 = 1 then (k_90 x4 m6) else (if a1 = 2 then (k_90 x5 m6) else (k_90 ((-1)) m6))))) (fun (k_60 : Int32 → Int32 → Mm → Aa) => mm_lk (fun (_ : Int32) (_ : Int32) (_ : Int32) (_ : Mm) => (none : Aa)) (fX7_count_L7 k_60) mm_fu x1 x2 x3 μ))))
abbrev rX7_count : Room := { frames := 0, cells := 0, slots := 0, locals := 0 }
set_option maxRecDepth 100000 in
set_option maxHeartbeats 8000000 in
theorem tX7_count {l : Launch} {D : va_G} {cA : Nat → ClassId} {adr : Nat → Nat} (hJ : mm_J adr NM) (a1 : Int32) (μ : Mm) : mm_Mi l D cA adr sM NM mm_SM yX7_count cX7_count 5 (some .int) rX7_count [.ref (adr 0), .int a1] μ (fX7_count a1 μ) := by
  refine mm_entryi hJ mm_okM (by decide) (Nat.le_of_ble_eq_true rfl) ⟨rfl, rfl⟩ (fun p e s m below meth c X hr => ?_)
  generalize ([.ref (adr 0), .int a1] : List Value).toArray = args at X ⊢
  refine gx_lv (lv' := [(0, .ref (adr 0)), (1, .int a1)]) rfl ?_
  unfold fX7_count
  refine gx_iconst X 0 1 (0) dX7_count_0 rfl ci_0 ?_
  refine gx_istore_n X 1 2 (fun x1 => [(2, .int x1), (0, .ref (adr 0)), (1, .int a1)]) dX7_count_1 rfl rfl (by decide) (fun _ => rfl) (fun x1 => ?_)
  refine gx_iconst X 2 3 (0) dX7_count_2 rfl ci_0 ?_
  refine gx_istore_n X 3 4 (fun x2 => [(3, .int x2), (2, .int x1), (0, .ref (adr 0)), (1, .int a1)]) dX7_count_3 rfl rfl (by decide) (fun _ => rfl) (fun x2 => ?_)
  refine gx_iconst X 4 5 (0) dX7_count_4 rfl ci_0 ?_
  refine gx_istore X 5 7 (fun x3 => [(4, .int x3), (3, .int x2), (2, .int x1), (0, .ref (adr 0)), (1, .int a1)]) dX7_count_5 rfl (by decide) (fun _ => rfl) (fun x3 => ?_)
  refine gx_jn (fun (k : Int32 → Int32 → Mm → Aa) => ∀ (x4 : Int32) (x5 : Int32) (m6 : Mm), mm_G p l e rX7_count s m args below meth c 5 D cA adr sM NM (mm_Qi D cA adr sM NM) m6 60 [(0, .ref (adr 0)), (1, .int a1), (2, .int x4), (3, .int x5)] [] (k x4 x5 m6)) ?_ (fun k_60 hk_60 => ?_)
  · intro x4 x5 m6
    refine gx_iload_n X 60 61 1 dX7_count_60 rfl rfl rfl ?_
    refine gx_jn (fun (k : Int32 → Mm → Aa) => ∀ (x7 : Int32) (m8 : Mm), mm_G p l e rX7_count s m args below meth c 5 D cA adr sM NM (mm_Qi D cA adr sM NM) m8 90 [] [.int x7] (k x7 m8)) ?_ (fun k_90 hk_90 => ?_)
    · intro x7 m8
      exact gx_iret X 90 hr dX7_count_90
    refine gx_if_ne X 61 71 64 dX7_count_61 rfl rfl ?_ ?_
    · refine gx_iload_n X 71 72 1 dX7_count_71 rfl rfl rfl ?_
      refine gx_iconst X 72 73 (1) dX7_count_72 rfl ci_1 ?_
      refine gx_icmp_ne X 73 80 76 dX7_count_73 rfl rfl ?_ ?_
      · refine gx_iload_n X 80 81 1 dX7_count_80 rfl rfl rfl ?_
        refine gx_iconst X 81 82 (2) dX7_count_81 rfl ci_2 ?_
        refine gx_icmp_ne X 82 89 85 dX7_count_82 rfl rfl ?_ ?_
        · refine gx_iconst X 89 90 (-1) dX7_count_89 rfl ci_m1 ?_
          refine gx_sub [] rfl ?_
          exact hk_90 ((-1)) m6
        refine gx_iload_n X 85 86 3 dX7_count_85 rfl rfl rfl ?_
        refine gx_goto X 86 90 dX7_count_86 rfl ?_
        refine gx_sub [] rfl ?_
        exact hk_90 x5 m6
      refine gx_iload_n X 76 77 2 dX7_count_76 rfl rfl rfl ?_
      refine gx_goto X 77 90 dX7_count_77 rfl ?_
      refine gx_sub [] rfl ?_
      exact hk_90 x4 m6
    refine gx_aload_n X 64 65 0 dX7_count_64 rfl rfl rfl ?_
    refine gx_getI X 65 68 0 (by decide) rfl rfl fg_X7_98 dX7_count_65 rfl ?_
    refine gx_goto X 68 90 dX7_count_68 rfl ?_
    refine gx_sub [] rfl ?_
    exact hk_90 (m6 0 1) m6
  refine gx_sub [3, 4, 2, 1, 0] rfl ?_
  refine mm_lk_ind (fun (rec : Int32 → Int32 → Int32 → Mm → Aa) => ∀ (x9 : Int32) (x10 : Int32) (x11 : Int32) (m12 : Mm), mm_G p l e rX7_count s m args below meth c 5 D cA adr sM NM (mm_Qi D cA adr sM NM) m12 7 [(0, .ref (adr 0)), (1, .int a1), (2, .int x9), (3, .int x10), (4, .int x11)] [] (rec x9 x10 x11 m12)) (fun _ _ _ _ => gx_none) (fun rec_7 hr_7 x9 x10 x11 m12 => ?_) mm_fu x1 x2 x3 μ
  unfold fX7_count_L7
  refine gx_iload X 7 9 4 dX7_count_7 rfl rfl ?_
  refine gx_aload_n X 9 10 0 dX7_count_9 rfl rfl rfl ?_
  refine gx_getI X 10 13 0 (by decide) rfl rfl fg_X7_98 dX7_count_10 rfl ?_
  refine gx_icmp_ge X 13 60 16 dX7_count_13 rfl rfl ?_ ?_
  · refine gx_sub [0, 1, 2, 3] rfl ?_
    exact hk_60 x9 x10 m12
  refine gx_iload_n X 16 17 2 dX7_count_16 rfl rfl rfl ?_
  refine gx_aload_n X 17 18 0 dX7_count_17 rfl rfl rfl ?_
  refine gx_getR X 18 21 0 (by decide) rfl rfl fg_X7_7 dX7_count_18 rfl ?_
  refine gx_bipush X 21 23 (7) dX7_count_21 rfl cb_7 ?_
  refine gx_iload X 23 25 4 dX7_count_23 rfl rfl ?_
  refine gx_imul X 25 26 dX7_count_25 rfl ?_
  refine gx_iconst X 26 27 (4) dX7_count_26 rfl ci_4 ?_
  refine gx_iadd X 27 28 dX7_count_27 rfl ?_
  refine gx_iaload X 28 29 1 (by decide) rfl dX7_count_28 rfl ?_
  refine gx_iadd X 29 30 dX7_count_29 rfl ?_
  refine gx_istore_n X 30 31 (fun x13 => [(2, .int x13), (0, .ref (adr 0)), (1, .int a1), (3, .int x10), (4, .int x11)]) dX7_count_30 rfl rfl (by decide) (fun _ => rfl) (fun x13 => ?_)
  refine gx_iload_n X 31 32 3 dX7_count_31 rfl rfl rfl ?_
  refine gx_aload_n X 32 33 1 dX7_count_32 rfl rfl rfl ?_
  refine gx_getR X 33 36 0 (by decide) rfl rfl fg_X7_7 dX7_count_33 rfl ?_
  refine gx_bipush X 36 38 (7) dX7_count_36 rfl cb_7 ?_
  refine gx_iload X 38 40 4 dX7_count_38 rfl rfl ?_
  refine gx_imul X 40 41 dX7_count_40 rfl ?_
  refine gx_iconst X 41 42 (1) dX7_count_41 rfl ci_1 ?_
  refine gx_iadd X 42 43 dX7_count_42 rfl ?_
  refine gx_iaload X 43 44 1 (by decide) rfl dX7_count_43 rfl ?_
  refine gx_jn (fun (k : Int32 → Mm → Aa) => ∀ (x14 : Int32) (m15 : Mm), mm_G p l e rX7_count s m args below meth c 5 D cA adr sM NM (mm_Qi D cA adr sM NM) m15 52 [(0, .ref (adr 0)), (1, .int a1), (2, .int x13), (4, .int x11)] [.int x14, .int x10] (k x14 m15)) ?_ (fun k_52 hk_52 => ?_)
  · intro x14 m15
    refine gx_iadd X 52 53 dX7_count_52 rfl ?_
    refine gx_istore_n X 53 54 (fun x16 => [(3, .int x16), (0, .ref (adr 0)), (1, .int a1), (2, .int x13), (4, .int x11)]) dX7_count_53 rfl rfl (by decide) (fun _ => rfl) (fun x16 => ?_)
    refine gx_iinc X 54 57 4 (1) (fun x17 => [(4, .int x17), (3, .int x16), (0, .ref (adr 0)), (1, .int a1), (2, .int x13)]) dX7_count_54 rfl rfl ci_1 (by decide) (fun _ => rfl) (fun x17 => ?_)
    refine gx_goto X 57 7 dX7_count_57 rfl ?_
    refine gx_sub [2, 3, 4, 1, 0] rfl ?_
    exact hr_7 x13 x16 x17 m15
  refine gx_if_ne X 44 51 47 dX7_count_44 rfl rfl ?_ ?_
  · refine gx_iconst X 51 52 (0) dX7_count_51 rfl ci_0 ?_
    refine gx_sub [1, 2, 0, 4] rfl ?_
    exact hk_52 0 m12
  refine gx_iconst X 47 48 (1) dX7_count_47 rfl ci_1 ?_
  refine gx_goto X 48 52 dX7_count_48 rfl ?_
  refine gx_sub [1, 2, 0, 4] rfl ?_
  exact hk_52 1 m12
