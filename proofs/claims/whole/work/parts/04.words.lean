def mm_TB : List Cond := lw_tbl.filter goodWord
theorem mm_tb {w : Cond} (h : w ∈ lw_tbl) (g : goodWord w = true) : w ∈ mm_TB := List.mem_filter.mpr ⟨h, g⟩
theorem mm_goodL : GoodIn mm_TB mm_TB := fun w h => ⟨h, good_of_word (List.mem_filter.mp h).2⟩
theorem mm_tbl {w : Cond} (h : w ∈ mm_TB) : w ∈ lw_tbl := (List.mem_filter.mp h).1
theorem mm_t1 {w : Cond} (h : w ∈ tables_1_1) : w ∈ lw_tbl := List.mem_append_right _ (List.mem_append_left _ h)
theorem mm_t2 {w : Cond} (h : w ∈ tables_1_2) : w ∈ lw_tbl := List.mem_append_right _ (List.mem_append_right _ (List.mem_append_left _ h))
theorem mm_t3 {w : Cond} (h : w ∈ tables_1_3) : w ∈ lw_tbl := List.mem_append_right _ (List.mem_append_right _ (List.mem_append_right _ (List.mem_append_left _ h)))
theorem mm_t4 {w : Cond} (h : w ∈ tables_1_4) : w ∈ lw_tbl := List.mem_append_right _ (List.mem_append_right _ (List.mem_append_right _ (List.mem_append_right _ (List.mem_append_left _ h))))
theorem mm_t5 {w : Cond} (h : w ∈ tables_1_5) : w ∈ lw_tbl := List.mem_append_right _ (List.mem_append_right _ (List.mem_append_right _ (List.mem_append_right _ (List.mem_append_right _ (List.mem_append_left _ h)))))
theorem mm_t6 {w : Cond} (h : w ∈ tables_1_6) : w ∈ lw_tbl := List.mem_append_right _ (List.mem_append_right _ (List.mem_append_right _ (List.mem_append_right _ (List.mem_append_right _ (List.mem_append_right _ (h))))))
theorem mm_p1 {q : MethodName × Nat} (h : q ∈ lw_privs_1) : Cond.selects q.1.cls q.1 q.1 ∈ lw_tbl := List.mem_append_left _ (List.mem_map_of_mem (f := fun q : MethodName × Nat => Cond.selects q.1.cls q.1 q.1) (List.mem_append_left _ h))
theorem mm_p2 {q : MethodName × Nat} (h : q ∈ lw_privs_2) : Cond.selects q.1.cls q.1 q.1 ∈ lw_tbl := List.mem_append_left _ (List.mem_map_of_mem (f := fun q : MethodName × Nat => Cond.selects q.1.cls q.1 q.1) (List.mem_append_right _ (List.mem_append_left _ h)))
theorem mm_p3 {q : MethodName × Nat} (h : q ∈ lw_privs_3) : Cond.selects q.1.cls q.1 q.1 ∈ lw_tbl := List.mem_append_left _ (List.mem_map_of_mem (f := fun q : MethodName × Nat => Cond.selects q.1.cls q.1 q.1) (List.mem_append_right _ (List.mem_append_right _ (List.mem_append_left _ h))))
theorem mm_p4 {q : MethodName × Nat} (h : q ∈ lw_privs_4) : Cond.selects q.1.cls q.1 q.1 ∈ lw_tbl := List.mem_append_left _ (List.mem_map_of_mem (f := fun q : MethodName × Nat => Cond.selects q.1.cls q.1 q.1) (List.mem_append_right _ (List.mem_append_right _ (List.mem_append_right _ (h)))))
theorem wn_L : Cond.initialized RL ∈ mm_TB := mm_tb (mm_t1 (List.mem_of_getElem? (i := 0) rfl)) rfl
theorem wn_X6 : Cond.initialized RX6 ∈ mm_TB := mm_tb (mm_t1 (List.mem_of_getElem? (i := 1) rfl)) rfl
theorem wn_X3 : Cond.initialized RX3 ∈ mm_TB := mm_tb (mm_t1 (List.mem_of_getElem? (i := 2) rfl)) rfl
theorem wn_J10 : Cond.initialized RJ10 ∈ mm_TB := mm_tb (mm_t1 (List.mem_of_getElem? (i := 3) rfl)) rfl
theorem wn_X4 : Cond.initialized RX4 ∈ mm_TB := mm_tb (mm_t1 (List.mem_of_getElem? (i := 4) rfl)) rfl
theorem wn_X0 : Cond.initialized RX0 ∈ mm_TB := mm_tb (mm_t1 (List.mem_of_getElem? (i := 5) rfl)) rfl
theorem wn_X5 : Cond.initialized RX5 ∈ mm_TB := mm_tb (mm_t1 (List.mem_of_getElem? (i := 6) rfl)) rfl
theorem wn_X1 : Cond.initialized RX1 ∈ mm_TB := mm_tb (mm_t1 (List.mem_of_getElem? (i := 7) rfl)) rfl
theorem wn_X2 : Cond.initialized RX2 ∈ mm_TB := mm_tb (mm_t1 (List.mem_of_getElem? (i := 8) rfl)) rfl
theorem wn_X7 : Cond.initialized RX7 ∈ mm_TB := mm_tb (mm_t1 (List.mem_of_getElem? (i := 9) rfl)) rfl
theorem wn_J9 : Cond.initialized RJ9 ∈ mm_TB := mm_tb (mm_t1 (List.mem_of_getElem? (i := 10) rfl)) rfl
theorem wn_J0 : Cond.initialized RJ0 ∈ mm_TB := mm_tb (mm_t1 (List.mem_of_getElem? (i := 11) rfl)) rfl
theorem wn_J1 : Cond.initialized RJ1 ∈ mm_TB := mm_tb (mm_t1 (List.mem_of_getElem? (i := 12) rfl)) rfl
theorem wn_J3 : Cond.initialized RJ3 ∈ mm_TB := mm_tb (mm_t1 (List.mem_of_getElem? (i := 13) rfl)) rfl
theorem wn_J2 : Cond.initialized RJ2 ∈ mm_TB := mm_tb (mm_t1 (List.mem_of_getElem? (i := 14) rfl)) rfl
theorem wn_J11 : Cond.initialized RJ11 ∈ mm_TB := mm_tb (mm_t1 (List.mem_of_getElem? (i := 15) rfl)) rfl
theorem wn_J6 : Cond.initialized RJ6 ∈ mm_TB := mm_tb (mm_t1 (List.mem_of_getElem? (i := 16) rfl)) rfl
theorem wq_L_7 : Cond.classLink RL 7 RX6 ∈ mm_TB := mm_tb (mm_t1 (List.mem_of_getElem? (i := 17) rfl)) rfl
theorem wz_X6 : Cond.instantiable RX6 8 ∈ mm_TB := mm_tb (mm_t1 (List.mem_of_getElem? (i := 18) rfl)) rfl
theorem wl_L_9 : Cond.methodLink RL 9 yX6_init ∈ mm_TB := mm_tb (mm_t1 (List.mem_of_getElem? (i := 19) rfl)) rfl
theorem wi_X6_init : Cond.instanceMethod yX6_init ∈ mm_TB := mm_tb (mm_t1 (List.mem_of_getElem? (i := 20) rfl)) rfl
theorem wc_X6_init : Cond.code yX6_init cX6_init 2 none ∈ mm_TB := mm_tb (mm_t1 (List.mem_of_getElem? (i := 21) rfl)) rfl
theorem wl_X6_1 : Cond.methodLink RX6 1 objectInit ∈ mm_TB := mm_tb (mm_t1 (List.mem_of_getElem? (i := 22) rfl)) rfl
theorem wi_objI : Cond.instanceMethod objectInit ∈ mm_TB := mm_tb (mm_t1 (List.mem_of_getElem? (i := 23) rfl)) rfl
theorem wc_objI : Cond.code objectInit ⟨#[0xb1]⟩ 1 none ∈ mm_TB := mm_tb (mm_t1 (List.mem_of_getElem? (i := 24) rfl)) rfl
theorem wq_X6_7 : Cond.classLink RX6 7 RX3 ∈ mm_TB := mm_tb (mm_t1 (List.mem_of_getElem? (i := 25) rfl)) rfl
theorem wz_X3 : Cond.instantiable RX3 4 ∈ mm_TB := mm_tb (mm_t1 (List.mem_of_getElem? (i := 26) rfl)) rfl
theorem wl_X6_9 : Cond.methodLink RX6 9 yX3_init ∈ mm_TB := mm_tb (mm_t1 (List.mem_of_getElem? (i := 27) rfl)) rfl
theorem wi_X3_init : Cond.instanceMethod yX3_init ∈ mm_TB := mm_tb (mm_t1 (List.mem_of_getElem? (i := 28) rfl)) rfl
theorem wc_X3_init : Cond.code yX3_init cX3_init 1 none ∈ mm_TB := mm_tb (mm_t1 (List.mem_of_getElem? (i := 29) rfl)) rfl
theorem wl_X3_3 : Cond.methodLink RX3 3 objectInit ∈ mm_TB := mm_tb (mm_t1 (List.mem_of_getElem? (i := 30) rfl)) rfl
theorem wq_X3_19 : Cond.classLink RX3 19 "[[I" ∈ mm_TB := mm_tb (mm_t1 (List.mem_of_getElem? (i := 31) rfl)) rfl
theorem wl_X3_27 : Cond.methodLink RX3 27 arraycopyName ∈ mm_TB := mm_tb (mm_t1 (List.mem_of_getElem? (i := 35) rfl)) rfl
theorem wt_acopy : Cond.static arraycopyName ∈ mm_TB := mm_tb (mm_t1 (List.mem_of_getElem? (i := 36) rfl)) rfl
theorem wv_acopy : Cond.native arraycopyName ∈ mm_TB := mm_tb (mm_t1 (List.mem_of_getElem? (i := 37) rfl)) rfl
theorem wf_X3_9 : Cond.fieldLink RX3 9 "PlankBridge$State" "firstPlanks" "I" ∈ mm_TB := mm_tb (mm_t1 (List.mem_of_getElem? (i := 38) rfl)) rfl
theorem wf_X6_51 : Cond.fieldLink RX6 51 "PlankBridge$State" "firstPlanks" "I" ∈ mm_TB := mm_tb (mm_t1 (List.mem_of_getElem? (i := 39) rfl)) rfl
theorem wf_X0_68 : Cond.fieldLink RX0 68 "PlankBridge$State" "firstPlanks" "I" ∈ mm_TB := mm_tb (mm_t1 (List.mem_of_getElem? (i := 40) rfl)) rfl
theorem wf_X3_33 : Cond.fieldLink RX3 33 "PlankBridge$State" "size" "I" ∈ mm_TB := mm_tb (mm_t1 (List.mem_of_getElem? (i := 41) rfl)) rfl
theorem wf_X0_25 : Cond.fieldLink RX0 25 "PlankBridge$State" "size" "I" ∈ mm_TB := mm_tb (mm_t1 (List.mem_of_getElem? (i := 42) rfl)) rfl
theorem wf_X6_80 : Cond.fieldLink RX6 80 "PlankBridge$State" "size" "I" ∈ mm_TB := mm_tb (mm_t1 (List.mem_of_getElem? (i := 43) rfl)) rfl
theorem wf_X3_15 : Cond.fieldLink RX3 15 "PlankBridge$State" "law" "[I" ∈ mm_TB := mm_tb (mm_t1 (List.mem_of_getElem? (i := 44) rfl)) rfl
theorem wf_X6_65 : Cond.fieldLink RX6 65 "PlankBridge$State" "law" "[I" ∈ mm_TB := mm_tb (mm_t1 (List.mem_of_getElem? (i := 45) rfl)) rfl
theorem wf_X0_72 : Cond.fieldLink RX0 72 "PlankBridge$State" "law" "[I" ∈ mm_TB := mm_tb (mm_t1 (List.mem_of_getElem? (i := 46) rfl)) rfl
theorem wf_X3_21 : Cond.fieldLink RX3 21 "PlankBridge$State" "folk" "[[I" ∈ mm_TB := mm_tb (mm_t1 (List.mem_of_getElem? (i := 47) rfl)) rfl
theorem wf_X0_39 : Cond.fieldLink RX0 39 "PlankBridge$State" "folk" "[[I" ∈ mm_TB := mm_tb (mm_t1 (List.mem_of_getElem? (i := 48) rfl)) rfl
theorem wf_X6_90 : Cond.fieldLink RX6 90 "PlankBridge$State" "folk" "[[I" ∈ mm_TB := mm_tb (mm_t1 (List.mem_of_getElem? (i := 49) rfl)) rfl
theorem wa_int : Cond.arrayClass .int ∈ mm_TB := mm_tb (mm_t1 (List.mem_of_getElem? (i := 59) rfl)) rfl
theorem wq_X6_19 : Cond.classLink RX6 19 RX4 ∈ mm_TB := mm_tb (mm_t1 (List.mem_of_getElem? (i := 60) rfl)) rfl
theorem wz_X4 : Cond.instantiable RX4 3 ∈ mm_TB := mm_tb (mm_t1 (List.mem_of_getElem? (i := 61) rfl)) rfl
theorem wi_X4_init : Cond.instanceMethod yX4_init ∈ mm_TB := mm_tb (mm_t1 (List.mem_of_getElem? (i := 63) rfl)) rfl
theorem wc_X4_init : Cond.code yX4_init cX4_init 1 none ∈ mm_TB := mm_tb (mm_t1 (List.mem_of_getElem? (i := 64) rfl)) rfl
theorem wl_X4_3 : Cond.methodLink RX4 3 objectInit ∈ mm_TB := mm_tb (mm_t1 (List.mem_of_getElem? (i := 65) rfl)) rfl
theorem wf_X4_15 : Cond.fieldLink RX4 15 "PlankBridge$Tape" "size" "I" ∈ mm_TB := mm_tb (mm_t1 (List.mem_of_getElem? (i := 66) rfl)) rfl
theorem wf_X6_104 : Cond.fieldLink RX6 104 "PlankBridge$Tape" "size" "I" ∈ mm_TB := mm_tb (mm_t1 (List.mem_of_getElem? (i := 67) rfl)) rfl
theorem wf_X4_19 : Cond.fieldLink RX4 19 "PlankBridge$Tape" "place" "I" ∈ mm_TB := mm_tb (mm_t1 (List.mem_of_getElem? (i := 68) rfl)) rfl
theorem wf_X4_9 : Cond.fieldLink RX4 9 "PlankBridge$Tape" "bytes" "[I" ∈ mm_TB := mm_tb (mm_t1 (List.mem_of_getElem? (i := 69) rfl)) rfl
theorem wq_X6_30 : Cond.classLink RX6 30 RX0 ∈ mm_TB := mm_tb (mm_t1 (List.mem_of_getElem? (i := 77) rfl)) rfl
theorem wz_X0 : Cond.instantiable RX0 9 ∈ mm_TB := mm_tb (mm_t1 (List.mem_of_getElem? (i := 78) rfl)) rfl
theorem wl_X6_32 : Cond.methodLink RX6 32 yX0_init ∈ mm_TB := mm_tb (mm_t1 (List.mem_of_getElem? (i := 79) rfl)) rfl
theorem wi_X0_init : Cond.instanceMethod yX0_init ∈ mm_TB := mm_tb (mm_t1 (List.mem_of_getElem? (i := 80) rfl)) rfl
theorem wc_X0_init : Cond.code yX0_init cX0_init 2 none ∈ mm_TB := mm_tb (mm_t1 (List.mem_of_getElem? (i := 81) rfl)) rfl
theorem wl_X0_3 : Cond.methodLink RX0 3 objectInit ∈ mm_TB := mm_tb (mm_t1 (List.mem_of_getElem? (i := 82) rfl)) rfl
theorem wq_X0_9 : Cond.classLink RX0 9 RX5 ∈ mm_TB := mm_tb (mm_t1 (List.mem_of_getElem? (i := 83) rfl)) rfl
theorem wz_X5 : Cond.instantiable RX5 18 ∈ mm_TB := mm_tb (mm_t1 (List.mem_of_getElem? (i := 85) rfl)) rfl
theorem wl_X0_24 : Cond.methodLink RX0 24 yX5_init ∈ mm_TB := mm_tb (mm_t1 (List.mem_of_getElem? (i := 86) rfl)) rfl
theorem wi_X5_init : Cond.instanceMethod yX5_init ∈ mm_TB := mm_tb (mm_t1 (List.mem_of_getElem? (i := 87) rfl)) rfl
theorem wc_X5_init : Cond.code yX5_init cX5_init 1 none ∈ mm_TB := mm_tb (mm_t1 (List.mem_of_getElem? (i := 88) rfl)) rfl
theorem wl_X5_3 : Cond.methodLink RX5 3 objectInit ∈ mm_TB := mm_tb (mm_t1 (List.mem_of_getElem? (i := 89) rfl)) rfl
theorem wf_X5_21 : Cond.fieldLink RX5 21 "PlankBridge$Walker" "comes" "I" ∈ mm_TB := mm_tb (mm_t1 (List.mem_of_getElem? (i := 90) rfl)) rfl
theorem wf_X0_47 : Cond.fieldLink RX0 47 "PlankBridge$Walker" "comes" "I" ∈ mm_TB := mm_tb (mm_t1 (List.mem_of_getElem? (i := 91) rfl)) rfl
theorem wf_X1_60 : Cond.fieldLink RX1 60 "PlankBridge$Walker" "comes" "I" ∈ mm_TB := mm_tb (mm_t1 (List.mem_of_getElem? (i := 92) rfl)) rfl
theorem wf_X5_15 : Cond.fieldLink RX5 15 "PlankBridge$Walker" "firstBank" "I" ∈ mm_TB := mm_tb (mm_t1 (List.mem_of_getElem? (i := 93) rfl)) rfl
theorem wf_X0_50 : Cond.fieldLink RX0 50 "PlankBridge$Walker" "firstBank" "I" ∈ mm_TB := mm_tb (mm_t1 (List.mem_of_getElem? (i := 94) rfl)) rfl
theorem wf_X5_33 : Cond.fieldLink RX5 33 "PlankBridge$Walker" "pace" "I" ∈ mm_TB := mm_tb (mm_t1 (List.mem_of_getElem? (i := 95) rfl)) rfl
theorem wf_X0_83 : Cond.fieldLink RX0 83 "PlankBridge$Walker" "pace" "I" ∈ mm_TB := mm_tb (mm_t1 (List.mem_of_getElem? (i := 96) rfl)) rfl
theorem wf_X0_53 : Cond.fieldLink RX0 53 "PlankBridge$Walker" "trips" "I" ∈ mm_TB := mm_tb (mm_t1 (List.mem_of_getElem? (i := 97) rfl)) rfl
theorem wf_X5_60 : Cond.fieldLink RX5 60 "PlankBridge$Walker" "trips" "I" ∈ mm_TB := mm_tb (mm_t1 (List.mem_of_getElem? (i := 98) rfl)) rfl
theorem wf_X0_56 : Cond.fieldLink RX0 56 "PlankBridge$Walker" "stays" "I" ∈ mm_TB := mm_tb (mm_t1 (List.mem_of_getElem? (i := 99) rfl)) rfl
theorem wf_X5_63 : Cond.fieldLink RX5 63 "PlankBridge$Walker" "stays" "I" ∈ mm_TB := mm_tb (mm_t1 (List.mem_of_getElem? (i := 100) rfl)) rfl
theorem wf_X0_90 : Cond.fieldLink RX0 90 "PlankBridge$Walker" "spiting" "Z" ∈ mm_TB := mm_tb (mm_t1 (List.mem_of_getElem? (i := 101) rfl)) rfl
theorem wf_X1_41 : Cond.fieldLink RX1 41 "PlankBridge$Walker" "company" "I" ∈ mm_TB := mm_tb (mm_t1 (List.mem_of_getElem? (i := 102) rfl)) rfl
theorem wf_X0_94 : Cond.fieldLink RX0 94 "PlankBridge$Walker" "company" "I" ∈ mm_TB := mm_tb (mm_t1 (List.mem_of_getElem? (i := 103) rfl)) rfl
theorem wf_X0_59 : Cond.fieldLink RX0 59 "PlankBridge$Walker" "mates" "I" ∈ mm_TB := mm_tb (mm_t1 (List.mem_of_getElem? (i := 104) rfl)) rfl
theorem wf_X1_49 : Cond.fieldLink RX1 49 "PlankBridge$Walker" "mates" "I" ∈ mm_TB := mm_tb (mm_t1 (List.mem_of_getElem? (i := 105) rfl)) rfl
theorem wf_X6_251 : Cond.fieldLink RX6 251 "PlankBridge$Walker" "mates" "I" ∈ mm_TB := mm_tb (mm_t1 (List.mem_of_getElem? (i := 106) rfl)) rfl
theorem wf_X5_9 : Cond.fieldLink RX5 9 "PlankBridge$Walker" "place" "I" ∈ mm_TB := mm_tb (mm_t1 (List.mem_of_getElem? (i := 107) rfl)) rfl
theorem wf_X0_138 : Cond.fieldLink RX0 138 "PlankBridge$Walker" "place" "I" ∈ mm_TB := mm_tb (mm_t1 (List.mem_of_getElem? (i := 108) rfl)) rfl
theorem wf_X6_131 : Cond.fieldLink RX6 131 "PlankBridge$Walker" "place" "I" ∈ mm_TB := mm_tb (mm_t1 (List.mem_of_getElem? (i := 109) rfl)) rfl
theorem wf_X5_18 : Cond.fieldLink RX5 18 "PlankBridge$Walker" "bank" "I" ∈ mm_TB := mm_tb (mm_t1 (List.mem_of_getElem? (i := 110) rfl)) rfl
theorem wf_X0_147 : Cond.fieldLink RX0 147 "PlankBridge$Walker" "bank" "I" ∈ mm_TB := mm_tb (mm_t1 (List.mem_of_getElem? (i := 111) rfl)) rfl
theorem wf_X5_27 : Cond.fieldLink RX5 27 "PlankBridge$Walker" "made" "I" ∈ mm_TB := mm_tb (mm_t1 (List.mem_of_getElem? (i := 112) rfl)) rfl
theorem wf_X6_139 : Cond.fieldLink RX6 139 "PlankBridge$Walker" "made" "I" ∈ mm_TB := mm_tb (mm_t1 (List.mem_of_getElem? (i := 113) rfl)) rfl
theorem wf_X5_24 : Cond.fieldLink RX5 24 "PlankBridge$Walker" "due" "I" ∈ mm_TB := mm_tb (mm_t1 (List.mem_of_getElem? (i := 114) rfl)) rfl
theorem wf_X0_169 : Cond.fieldLink RX0 169 "PlankBridge$Walker" "due" "I" ∈ mm_TB := mm_tb (mm_t1 (List.mem_of_getElem? (i := 115) rfl)) rfl
theorem wf_X5_30 : Cond.fieldLink RX5 30 "PlankBridge$Walker" "way" "I" ∈ mm_TB := mm_tb (mm_t1 (List.mem_of_getElem? (i := 116) rfl)) rfl
theorem wf_X0_141 : Cond.fieldLink RX0 141 "PlankBridge$Walker" "way" "I" ∈ mm_TB := mm_tb (mm_t1 (List.mem_of_getElem? (i := 117) rfl)) rfl
theorem wf_X6_167 : Cond.fieldLink RX6 167 "PlankBridge$Walker" "way" "I" ∈ mm_TB := mm_tb (mm_t1 (List.mem_of_getElem? (i := 118) rfl)) rfl
theorem wf_X5_36 : Cond.fieldLink RX5 36 "PlankBridge$Walker" "tripPace" "I" ∈ mm_TB := mm_tb (mm_t1 (List.mem_of_getElem? (i := 119) rfl)) rfl
theorem wf_X5_39 : Cond.fieldLink RX5 39 "PlankBridge$Walker" "over" "I" ∈ mm_TB := mm_tb (mm_t1 (List.mem_of_getElem? (i := 120) rfl)) rfl
theorem wf_X6_136 : Cond.fieldLink RX6 136 "PlankBridge$Walker" "over" "I" ∈ mm_TB := mm_tb (mm_t1 (List.mem_of_getElem? (i := 121) rfl)) rfl
theorem wf_X0_192 : Cond.fieldLink RX0 192 "PlankBridge$Walker" "over" "I" ∈ mm_TB := mm_tb (mm_t1 (List.mem_of_getElem? (i := 122) rfl)) rfl
theorem wf_X5_42 : Cond.fieldLink RX5 42 "PlankBridge$Walker" "fords" "I" ∈ mm_TB := mm_tb (mm_t1 (List.mem_of_getElem? (i := 123) rfl)) rfl
theorem wf_X6_142 : Cond.fieldLink RX6 142 "PlankBridge$Walker" "fords" "I" ∈ mm_TB := mm_tb (mm_t1 (List.mem_of_getElem? (i := 124) rfl)) rfl
theorem wf_X0_172 : Cond.fieldLink RX0 172 "PlankBridge$Walker" "fords" "I" ∈ mm_TB := mm_tb (mm_t1 (List.mem_of_getElem? (i := 125) rfl)) rfl
theorem wf_X5_45 : Cond.fieldLink RX5 45 "PlankBridge$Walker" "waited" "I" ∈ mm_TB := mm_tb (mm_t1 (List.mem_of_getElem? (i := 126) rfl)) rfl
theorem wf_X0_154 : Cond.fieldLink RX0 154 "PlankBridge$Walker" "waited" "I" ∈ mm_TB := mm_tb (mm_t1 (List.mem_of_getElem? (i := 127) rfl)) rfl
theorem wf_X6_145 : Cond.fieldLink RX6 145 "PlankBridge$Walker" "waited" "I" ∈ mm_TB := mm_tb (mm_t1 (List.mem_of_getElem? (i := 128) rfl)) rfl
theorem wf_X5_48 : Cond.fieldLink RX5 48 "PlankBridge$Walker" "ropeless" "I" ∈ mm_TB := mm_tb (mm_t1 (List.mem_of_getElem? (i := 129) rfl)) rfl
theorem wf_X6_148 : Cond.fieldLink RX6 148 "PlankBridge$Walker" "ropeless" "I" ∈ mm_TB := mm_tb (mm_t1 (List.mem_of_getElem? (i := 130) rfl)) rfl
theorem wf_X0_11 : Cond.fieldLink RX0 11 "PlankBridge$Day" "walkers" "[LPlankBridge$Walker;" ∈ mm_TB := mm_tb (mm_t1 (List.mem_of_getElem? (i := 168) rfl)) rfl
theorem wf_X1_35 : Cond.fieldLink RX1 35 "PlankBridge$Day" "walkers" "[LPlankBridge$Walker;" ∈ mm_TB := mm_tb (mm_t1 (List.mem_of_getElem? (i := 169) rfl)) rfl
theorem wf_X6_127 : Cond.fieldLink RX6 127 "PlankBridge$Day" "walkers" "[LPlankBridge$Walker;" ∈ mm_TB := mm_tb (mm_t1 (List.mem_of_getElem? (i := 170) rfl)) rfl
theorem wf_X0_17 : Cond.fieldLink RX0 17 "PlankBridge$Day" "law" "[I" ∈ mm_TB := mm_tb (mm_t1 (List.mem_of_getElem? (i := 171) rfl)) rfl
theorem wf_X6_226 : Cond.fieldLink RX6 226 "PlankBridge$Day" "law" "[I" ∈ mm_TB := mm_tb (mm_t1 (List.mem_of_getElem? (i := 172) rfl)) rfl
theorem wf_X0_35 : Cond.fieldLink RX0 35 "PlankBridge$Day" "roped" "I" ∈ mm_TB := mm_tb (mm_t1 (List.mem_of_getElem? (i := 173) rfl)) rfl
theorem wf_X6_218 : Cond.fieldLink RX6 218 "PlankBridge$Day" "roped" "I" ∈ mm_TB := mm_tb (mm_t1 (List.mem_of_getElem? (i := 174) rfl)) rfl
theorem wf_X0_122 : Cond.fieldLink RX0 122 "PlankBridge$Day" "planksNow" "I" ∈ mm_TB := mm_tb (mm_t1 (List.mem_of_getElem? (i := 175) rfl)) rfl
theorem wf_X6_151 : Cond.fieldLink RX6 151 "PlankBridge$Day" "planksNow" "I" ∈ mm_TB := mm_tb (mm_t1 (List.mem_of_getElem? (i := 176) rfl)) rfl
theorem wf_X0_125 : Cond.fieldLink RX0 125 "PlankBridge$Day" "ropesLeft" "I" ∈ mm_TB := mm_tb (mm_t1 (List.mem_of_getElem? (i := 177) rfl)) rfl
theorem wf_X6_160 : Cond.fieldLink RX6 160 "PlankBridge$Day" "ropesLeft" "I" ∈ mm_TB := mm_tb (mm_t1 (List.mem_of_getElem? (i := 178) rfl)) rfl
theorem wf_X0_128 : Cond.fieldLink RX0 128 "PlankBridge$Day" "counted" "I" ∈ mm_TB := mm_tb (mm_t1 (List.mem_of_getElem? (i := 179) rfl)) rfl
theorem wf_X6_177 : Cond.fieldLink RX6 177 "PlankBridge$Day" "counted" "I" ∈ mm_TB := mm_tb (mm_t1 (List.mem_of_getElem? (i := 180) rfl)) rfl
theorem wf_X0_38 : Cond.fieldLink RX0 38 "PlankBridge$Day" "size" "I" ∈ mm_TB := mm_tb (mm_t1 (List.mem_of_getElem? (i := 181) rfl)) rfl
theorem wf_X0_71 : Cond.fieldLink RX0 71 "PlankBridge$Day" "firstPlanks" "I" ∈ mm_TB := mm_tb (mm_t1 (List.mem_of_getElem? (i := 182) rfl)) rfl
theorem wf_X0_21 : Cond.fieldLink RX0 21 "PlankBridge$Day" "lastCount" "[I" ∈ mm_TB := mm_tb (mm_t1 (List.mem_of_getElem? (i := 183) rfl)) rfl
theorem wq_X6_37 : Cond.classLink RX6 37 RX1 ∈ mm_TB := mm_tb (mm_t1 (List.mem_of_getElem? (i := 203) rfl)) rfl
theorem wz_X1 : Cond.instantiable RX1 6 ∈ mm_TB := mm_tb (mm_t1 (List.mem_of_getElem? (i := 204) rfl)) rfl
theorem wl_X6_39 : Cond.methodLink RX6 39 yX1_init ∈ mm_TB := mm_tb (mm_t1 (List.mem_of_getElem? (i := 205) rfl)) rfl
theorem wi_X1_init : Cond.instanceMethod yX1_init ∈ mm_TB := mm_tb (mm_t1 (List.mem_of_getElem? (i := 206) rfl)) rfl
theorem wc_X1_init : Cond.code yX1_init cX1_init 1 none ∈ mm_TB := mm_tb (mm_t1 (List.mem_of_getElem? (i := 207) rfl)) rfl
theorem wl_X1_3 : Cond.methodLink RX1 3 objectInit ∈ mm_TB := mm_tb (mm_t1 (List.mem_of_getElem? (i := 208) rfl)) rfl
theorem wf_X1_27 : Cond.fieldLink RX1 27 "PlankBridge$Search" "size" "I" ∈ mm_TB := mm_tb (mm_t1 (List.mem_of_getElem? (i := 209) rfl)) rfl
theorem wf_X6_186 : Cond.fieldLink RX6 186 "PlankBridge$Search" "size" "I" ∈ mm_TB := mm_tb (mm_t1 (List.mem_of_getElem? (i := 210) rfl)) rfl
theorem wf_X1_9 : Cond.fieldLink RX1 9 "PlankBridge$Search" "best" "[I" ∈ mm_TB := mm_tb (mm_t1 (List.mem_of_getElem? (i := 211) rfl)) rfl
theorem wf_X6_194 : Cond.fieldLink RX6 194 "PlankBridge$Search" "best" "[I" ∈ mm_TB := mm_tb (mm_t1 (List.mem_of_getElem? (i := 212) rfl)) rfl
theorem wf_X1_66 : Cond.fieldLink RX1 66 "PlankBridge$Search" "bestLast" "I" ∈ mm_TB := mm_tb (mm_t1 (List.mem_of_getElem? (i := 213) rfl)) rfl
theorem wf_X1_69 : Cond.fieldLink RX1 69 "PlankBridge$Search" "bestSum" "I" ∈ mm_TB := mm_tb (mm_t1 (List.mem_of_getElem? (i := 214) rfl)) rfl
theorem wf_X1_15 : Cond.fieldLink RX1 15 "PlankBridge$Search" "who" "[I" ∈ mm_TB := mm_tb (mm_t1 (List.mem_of_getElem? (i := 215) rfl)) rfl
theorem wf_X1_18 : Cond.fieldLink RX1 18 "PlankBridge$Search" "row" "[I" ∈ mm_TB := mm_tb (mm_t1 (List.mem_of_getElem? (i := 216) rfl)) rfl
theorem wq_X6_44 : Cond.classLink RX6 44 RX2 ∈ mm_TB := mm_tb (mm_t1 (List.mem_of_getElem? (i := 230) rfl)) rfl
theorem wz_X2 : Cond.instantiable RX2 3 ∈ mm_TB := mm_tb (mm_t1 (List.mem_of_getElem? (i := 232) rfl)) rfl
theorem wi_X2_init : Cond.instanceMethod yX2_init ∈ mm_TB := mm_tb (mm_t1 (List.mem_of_getElem? (i := 234) rfl)) rfl
theorem wc_X2_init : Cond.code yX2_init cX2_init 1 none ∈ mm_TB := mm_tb (mm_t1 (List.mem_of_getElem? (i := 235) rfl)) rfl
theorem wl_X2_3 : Cond.methodLink RX2 3 objectInit ∈ mm_TB := mm_tb (mm_t1 (List.mem_of_getElem? (i := 236) rfl)) rfl
theorem wf_X2_9 : Cond.fieldLink RX2 9 "PlankBridge$Sheet" "lane" "I" ∈ mm_TB := mm_tb (mm_t1 (List.mem_of_getElem? (i := 237) rfl)) rfl
theorem wf_X6_245 : Cond.fieldLink RX6 245 "PlankBridge$Sheet" "lane" "I" ∈ mm_TB := mm_tb (mm_t1 (List.mem_of_getElem? (i := 238) rfl)) rfl
theorem wf_X2_19 : Cond.fieldLink RX2 19 "PlankBridge$Sheet" "size" "I" ∈ mm_TB := mm_tb (mm_t1 (List.mem_of_getElem? (i := 239) rfl)) rfl
theorem wf_X6_248 : Cond.fieldLink RX6 248 "PlankBridge$Sheet" "size" "I" ∈ mm_TB := mm_tb (mm_t2 (List.mem_of_getElem? (i := 0) rfl)) rfl
theorem wf_X2_15 : Cond.fieldLink RX2 15 "PlankBridge$Sheet" "items" "[I" ∈ mm_TB := mm_tb (mm_t2 (List.mem_of_getElem? (i := 1) rfl)) rfl
theorem wf_X6_238 : Cond.fieldLink RX6 238 "PlankBridge$Sheet" "items" "[I" ∈ mm_TB := mm_tb (mm_t2 (List.mem_of_getElem? (i := 2) rfl)) rfl
theorem wf_X6_10 : Cond.fieldLink RX6 10 "PlankBridge" "now" "LPlankBridge$State;" ∈ mm_TB := mm_tb (mm_t2 (List.mem_of_getElem? (i := 10) rfl)) rfl
theorem wf_X6_16 : Cond.fieldLink RX6 16 "PlankBridge" "kept" "LPlankBridge$State;" ∈ mm_TB := mm_tb (mm_t2 (List.mem_of_getElem? (i := 11) rfl)) rfl
theorem wf_X6_230 : Cond.fieldLink RX6 230 "PlankBridge" "hasImage" "Z" ∈ mm_TB := mm_tb (mm_t2 (List.mem_of_getElem? (i := 12) rfl)) rfl
theorem wf_X6_22 : Cond.fieldLink RX6 22 "PlankBridge" "tape" "LPlankBridge$Tape;" ∈ mm_TB := mm_tb (mm_t2 (List.mem_of_getElem? (i := 13) rfl)) rfl
theorem wf_X6_26 : Cond.fieldLink RX6 26 "PlankBridge" "read" "[I" ∈ mm_TB := mm_tb (mm_t2 (List.mem_of_getElem? (i := 14) rfl)) rfl
theorem wf_X6_33 : Cond.fieldLink RX6 33 "PlankBridge" "day" "LPlankBridge$Day;" ∈ mm_TB := mm_tb (mm_t2 (List.mem_of_getElem? (i := 15) rfl)) rfl
theorem wf_X6_40 : Cond.fieldLink RX6 40 "PlankBridge" "search" "LPlankBridge$Search;" ∈ mm_TB := mm_tb (mm_t2 (List.mem_of_getElem? (i := 16) rfl)) rfl
theorem wf_X6_46 : Cond.fieldLink RX6 46 "PlankBridge" "sheets" "[LPlankBridge$Sheet;" ∈ mm_TB := mm_tb (mm_t2 (List.mem_of_getElem? (i := 17) rfl)) rfl
theorem wl_L_13 : Cond.methodLink RL 13 yX6_planks ∈ mm_TB := mm_tb (mm_t2 (List.mem_of_getElem? (i := 35) rfl)) rfl
theorem wi_X6_planks : Cond.instanceMethod yX6_planks ∈ mm_TB := mm_tb (mm_t2 (List.mem_of_getElem? (i := 36) rfl)) rfl
theorem ws_X6_planks : Cond.selects RX6 yX6_planks yX6_planks ∈ mm_TB := mm_tb (mm_t2 (List.mem_of_getElem? (i := 37) rfl)) rfl
theorem wc_X6_planks : Cond.code yX6_planks cX6_planks 3 (some .int) ∈ mm_TB := mm_tb (mm_t2 (List.mem_of_getElem? (i := 38) rfl)) rfl
theorem wl_L_18 : Cond.methodLink RL 18 yX6_rule ∈ mm_TB := mm_tb (mm_t2 (List.mem_of_getElem? (i := 39) rfl)) rfl
theorem wi_X6_rule : Cond.instanceMethod yX6_rule ∈ mm_TB := mm_tb (mm_t2 (List.mem_of_getElem? (i := 40) rfl)) rfl
theorem ws_X6_rule : Cond.selects RX6 yX6_rule yX6_rule ∈ mm_TB := mm_tb (mm_t2 (List.mem_of_getElem? (i := 41) rfl)) rfl
theorem wc_X6_rule : Cond.code yX6_rule cX6_rule 4 (some .int) ∈ mm_TB := mm_tb (mm_t2 (List.mem_of_getElem? (i := 42) rfl)) rfl
theorem wl_X6_55 : Cond.methodLink RX6 55 yX6_isWithin ∈ mm_TB := mm_tb (mm_t2 (List.mem_of_getElem? (i := 43) rfl)) rfl
theorem wt_X6_isWithin : Cond.static yX6_isWithin ∈ mm_TB := mm_tb (mm_t2 (List.mem_of_getElem? (i := 44) rfl)) rfl
theorem wc_X6_isWithin : Cond.code yX6_isWithin cX6_isWithin 2 (some .boolean) ∈ mm_TB := mm_tb (mm_t2 (List.mem_of_getElem? (i := 45) rfl)) rfl
theorem wf_X6_59 : Cond.fieldLink RX6 59 "PlankBridge" "LAW_LEAST" "[I" ∈ mm_TB := mm_tb (mm_t2 (List.mem_of_getElem? (i := 46) rfl)) rfl
theorem wf_X6_62 : Cond.fieldLink RX6 62 "PlankBridge" "LAW_MOST" "[I" ∈ mm_TB := mm_tb (mm_t2 (List.mem_of_getElem? (i := 48) rfl)) rfl
theorem wl_L_23 : Cond.methodLink RL 23 yX6_person ∈ mm_TB := mm_tb (mm_t2 (List.mem_of_getElem? (i := 50) rfl)) rfl
theorem wi_X6_person : Cond.instanceMethod yX6_person ∈ mm_TB := mm_tb (mm_t2 (List.mem_of_getElem? (i := 51) rfl)) rfl
theorem ws_X6_person : Cond.selects RX6 yX6_person yX6_person ∈ mm_TB := mm_tb (mm_t2 (List.mem_of_getElem? (i := 52) rfl)) rfl
theorem wc_X6_person : Cond.code yX6_person cX6_person 6 (some .int) ∈ mm_TB := mm_tb (mm_t2 (List.mem_of_getElem? (i := 53) rfl)) rfl
theorem wl_X6_68 : Cond.methodLink RX6 68 yX3_mayCome ∈ mm_TB := mm_tb (mm_t2 (List.mem_of_getElem? (i := 54) rfl)) rfl
theorem wi_X3_mayCome : Cond.instanceMethod yX3_mayCome ∈ mm_TB := mm_tb (mm_t2 (List.mem_of_getElem? (i := 55) rfl)) rfl
theorem ws_X3_mayCome : Cond.selects RX3 yX3_mayCome yX3_mayCome ∈ mm_TB := mm_tb (mm_t2 (List.mem_of_getElem? (i := 56) rfl)) rfl
theorem wc_X3_mayCome : Cond.code yX3_mayCome cX3_mayCome 5 (some .boolean) ∈ mm_TB := mm_tb (mm_t2 (List.mem_of_getElem? (i := 57) rfl)) rfl
theorem wl_X6_72 : Cond.methodLink RX6 72 yX3_hasRoom ∈ mm_TB := mm_tb (mm_t2 (List.mem_of_getElem? (i := 62) rfl)) rfl
theorem wi_X3_hasRoom : Cond.instanceMethod yX3_hasRoom ∈ mm_TB := mm_tb (mm_t2 (List.mem_of_getElem? (i := 63) rfl)) rfl
theorem ws_X3_hasRoom : Cond.selects RX3 yX3_hasRoom yX3_hasRoom ∈ mm_TB := mm_tb (mm_t2 (List.mem_of_getElem? (i := 64) rfl)) rfl
theorem wc_X3_hasRoom : Cond.code yX3_hasRoom cX3_hasRoom 2 (some .boolean) ∈ mm_TB := mm_tb (mm_t2 (List.mem_of_getElem? (i := 65) rfl)) rfl
theorem wl_X6_76 : Cond.methodLink RX6 76 yX3_enlist ∈ mm_TB := mm_tb (mm_t2 (List.mem_of_getElem? (i := 66) rfl)) rfl
theorem wi_X3_enlist : Cond.instanceMethod yX3_enlist ∈ mm_TB := mm_tb (mm_t2 (List.mem_of_getElem? (i := 67) rfl)) rfl
theorem ws_X3_enlist : Cond.selects RX3 yX3_enlist yX3_enlist ∈ mm_TB := mm_tb (mm_t2 (List.mem_of_getElem? (i := 68) rfl)) rfl
theorem wc_X3_enlist : Cond.code yX3_enlist cX3_enlist 3 none ∈ mm_TB := mm_tb (mm_t2 (List.mem_of_getElem? (i := 69) rfl)) rfl
theorem wl_X3_46 : Cond.methodLink RX3 46 yX3_hasRoom ∈ mm_TB := mm_tb (mm_t2 (List.mem_of_getElem? (i := 70) rfl)) rfl
theorem wl_X3_50 : Cond.methodLink RX3 50 yX3_mayCome ∈ mm_TB := mm_tb (mm_t2 (List.mem_of_getElem? (i := 71) rfl)) rfl
theorem wl_L_28 : Cond.methodLink RL 28 yX6_told ∈ mm_TB := mm_tb (mm_t2 (List.mem_of_getElem? (i := 72) rfl)) rfl
theorem wi_X6_told : Cond.instanceMethod yX6_told ∈ mm_TB := mm_tb (mm_t2 (List.mem_of_getElem? (i := 73) rfl)) rfl
theorem ws_X6_told : Cond.selects RX6 yX6_told yX6_told ∈ mm_TB := mm_tb (mm_t2 (List.mem_of_getElem? (i := 74) rfl)) rfl
theorem wc_X6_told : Cond.code yX6_told cX6_told 4 (some .int) ∈ mm_TB := mm_tb (mm_t2 (List.mem_of_getElem? (i := 75) rfl)) rfl
theorem wl_X6_83 : Cond.methodLink RX6 83 yX3_has ∈ mm_TB := mm_tb (mm_t2 (List.mem_of_getElem? (i := 76) rfl)) rfl
theorem wi_X3_has : Cond.instanceMethod yX3_has ∈ mm_TB := mm_tb (mm_t2 (List.mem_of_getElem? (i := 77) rfl)) rfl
theorem ws_X3_has : Cond.selects RX3 yX3_has yX3_has ∈ mm_TB := mm_tb (mm_t2 (List.mem_of_getElem? (i := 78) rfl)) rfl
theorem wc_X3_has : Cond.code yX3_has cX3_has 2 (some .boolean) ∈ mm_TB := mm_tb (mm_t2 (List.mem_of_getElem? (i := 79) rfl)) rfl
theorem wl_X6_86 : Cond.methodLink RX6 86 yX3_paceOf ∈ mm_TB := mm_tb (mm_t2 (List.mem_of_getElem? (i := 81) rfl)) rfl
theorem wi_X3_paceOf : Cond.instanceMethod yX3_paceOf ∈ mm_TB := mm_tb (mm_t2 (List.mem_of_getElem? (i := 82) rfl)) rfl
theorem ws_X3_paceOf : Cond.selects RX3 yX3_paceOf yX3_paceOf ∈ mm_TB := mm_tb (mm_t2 (List.mem_of_getElem? (i := 83) rfl)) rfl
theorem wc_X3_paceOf : Cond.code yX3_paceOf cX3_paceOf 3 (some .int) ∈ mm_TB := mm_tb (mm_t2 (List.mem_of_getElem? (i := 84) rfl)) rfl
theorem wt_X6_half : Cond.static yX6_half ∈ mm_TB := mm_tb (mm_t2 (List.mem_of_getElem? (i := 86) rfl)) rfl
theorem wc_X6_half : Cond.code yX6_half cX6_half 1 (some .int) ∈ mm_TB := mm_tb (mm_t2 (List.mem_of_getElem? (i := 87) rfl)) rfl
theorem wl_X6_221 : Cond.methodLink RX6 221 Lib.Math.max.name ∈ mm_TB := mm_tb (mm_t2 (List.mem_of_getElem? (i := 88) rfl)) rfl
theorem wt_Mmax : Cond.static Lib.Math.max.name ∈ mm_TB := mm_tb (mm_t2 (List.mem_of_getElem? (i := 89) rfl)) rfl
theorem wc_Mmax : Cond.code Lib.Math.max.name Lib.Math.max.code 2 (some .int) ∈ mm_TB := mm_tb (mm_t2 (List.mem_of_getElem? (i := 90) rfl)) rfl
theorem wl_L_32 : Cond.methodLink RL 32 yX6_stay ∈ mm_TB := mm_tb (mm_t2 (List.mem_of_getElem? (i := 91) rfl)) rfl
theorem wi_X6_stay : Cond.instanceMethod yX6_stay ∈ mm_TB := mm_tb (mm_t2 (List.mem_of_getElem? (i := 92) rfl)) rfl
theorem ws_X6_stay : Cond.selects RX6 yX6_stay yX6_stay ∈ mm_TB := mm_tb (mm_t2 (List.mem_of_getElem? (i := 93) rfl)) rfl
theorem wc_X6_stay : Cond.code yX6_stay cX6_stay 4 (some .int) ∈ mm_TB := mm_tb (mm_t2 (List.mem_of_getElem? (i := 94) rfl)) rfl
theorem wf_X6_94 : Cond.fieldLink RX6 94 "PlankBridge" "TOLD_LEAST" "[I" ∈ mm_TB := mm_tb (mm_t2 (List.mem_of_getElem? (i := 95) rfl)) rfl
theorem wf_X6_97 : Cond.fieldLink RX6 97 "PlankBridge" "TOLD_MOST" "[I" ∈ mm_TB := mm_tb (mm_t2 (List.mem_of_getElem? (i := 96) rfl)) rfl
theorem wl_L_36 : Cond.methodLink RL 36 yX6_hold ∈ mm_TB := mm_tb (mm_t2 (List.mem_of_getElem? (i := 97) rfl)) rfl
theorem wi_X6_hold : Cond.instanceMethod yX6_hold ∈ mm_TB := mm_tb (mm_t2 (List.mem_of_getElem? (i := 98) rfl)) rfl
theorem ws_X6_hold : Cond.selects RX6 yX6_hold yX6_hold ∈ mm_TB := mm_tb (mm_t2 (List.mem_of_getElem? (i := 99) rfl)) rfl
theorem wc_X6_hold : Cond.code yX6_hold cX6_hold 4 (some .int) ∈ mm_TB := mm_tb (mm_t2 (List.mem_of_getElem? (i := 100) rfl)) rfl
theorem wl_L_40 : Cond.methodLink RL 40 yX6_clear ∈ mm_TB := mm_tb (mm_t2 (List.mem_of_getElem? (i := 101) rfl)) rfl
theorem wi_X6_clear : Cond.instanceMethod yX6_clear ∈ mm_TB := mm_tb (mm_t2 (List.mem_of_getElem? (i := 102) rfl)) rfl
theorem ws_X6_clear : Cond.selects RX6 yX6_clear yX6_clear ∈ mm_TB := mm_tb (mm_t2 (List.mem_of_getElem? (i := 103) rfl)) rfl
theorem wc_X6_clear : Cond.code yX6_clear cX6_clear 2 (some .int) ∈ mm_TB := mm_tb (mm_t2 (List.mem_of_getElem? (i := 104) rfl)) rfl
theorem wl_L_47 : Cond.methodLink RL 47 yX6_type ∈ mm_TB := mm_tb (mm_t2 (List.mem_of_getElem? (i := 105) rfl)) rfl
theorem wi_X6_type : Cond.instanceMethod yX6_type ∈ mm_TB := mm_tb (mm_t2 (List.mem_of_getElem? (i := 106) rfl)) rfl
theorem ws_X6_type : Cond.selects RX6 yX6_type yX6_type ∈ mm_TB := mm_tb (mm_t2 (List.mem_of_getElem? (i := 107) rfl)) rfl
theorem wc_X6_type : Cond.code yX6_type cX6_type 6 (some .int) ∈ mm_TB := mm_tb (mm_t2 (List.mem_of_getElem? (i := 108) rfl)) rfl
theorem wl_X6_100 : Cond.methodLink RX6 100 yX6_lowByte ∈ mm_TB := mm_tb (mm_t2 (List.mem_of_getElem? (i := 109) rfl)) rfl
theorem wt_X6_lowByte : Cond.static yX6_lowByte ∈ mm_TB := mm_tb (mm_t2 (List.mem_of_getElem? (i := 110) rfl)) rfl
theorem wc_X6_lowByte : Cond.code yX6_lowByte cX6_lowByte 3 (some .int) ∈ mm_TB := mm_tb (mm_t2 (List.mem_of_getElem? (i := 111) rfl)) rfl
theorem wl_X6_105 : Cond.methodLink RX6 105 yX4_put ∈ mm_TB := mm_tb (mm_t2 (List.mem_of_getElem? (i := 112) rfl)) rfl
theorem wi_X4_put : Cond.instanceMethod yX4_put ∈ mm_TB := mm_tb (mm_t2 (List.mem_of_getElem? (i := 113) rfl)) rfl
theorem ws_X4_put : Cond.selects RX4 yX4_put yX4_put ∈ mm_TB := mm_tb (mm_t2 (List.mem_of_getElem? (i := 114) rfl)) rfl
theorem wc_X4_put : Cond.code yX4_put cX4_put 2 none ∈ mm_TB := mm_tb (mm_t2 (List.mem_of_getElem? (i := 115) rfl)) rfl
theorem wl_L_52 : Cond.methodLink RL 52 yX6_laws ∈ mm_TB := mm_tb (mm_t2 (List.mem_of_getElem? (i := 116) rfl)) rfl
theorem wi_X6_laws : Cond.instanceMethod yX6_laws ∈ mm_TB := mm_tb (mm_t2 (List.mem_of_getElem? (i := 117) rfl)) rfl
theorem ws_X6_laws : Cond.selects RX6 yX6_laws yX6_laws ∈ mm_TB := mm_tb (mm_t2 (List.mem_of_getElem? (i := 118) rfl)) rfl
theorem wc_X6_laws : Cond.code yX6_laws cX6_laws 3 (some .int) ∈ mm_TB := mm_tb (mm_t2 (List.mem_of_getElem? (i := 119) rfl)) rfl
theorem wl_X6_109 : Cond.methodLink RX6 109 yX4_readLaws ∈ mm_TB := mm_tb (mm_t2 (List.mem_of_getElem? (i := 120) rfl)) rfl
theorem wi_X4_readLaws : Cond.instanceMethod yX4_readLaws ∈ mm_TB := mm_tb (mm_t2 (List.mem_of_getElem? (i := 121) rfl)) rfl
theorem ws_X4_readLaws : Cond.selects RX4 yX4_readLaws yX4_readLaws ∈ mm_TB := mm_tb (mm_t2 (List.mem_of_getElem? (i := 122) rfl)) rfl
theorem wc_X4_readLaws : Cond.code yX4_readLaws cX4_readLaws 4 (some .int) ∈ mm_TB := mm_tb (mm_t2 (List.mem_of_getElem? (i := 123) rfl)) rfl
theorem wl_X4_22 : Cond.methodLink RX4 22 yX4_peek ∈ mm_TB := mm_tb (mm_t2 (List.mem_of_getElem? (i := 124) rfl)) rfl
theorem wi_X4_peek : Cond.instanceMethod yX4_peek ∈ mm_TB := mm_tb (mm_t2 (List.mem_of_getElem? (i := 126) rfl)) rfl
theorem wc_X4_peek : Cond.code yX4_peek cX4_peek 1 (some .int) ∈ mm_TB := mm_tb (mm_t2 (List.mem_of_getElem? (i := 127) rfl)) rfl
theorem wl_X4_28 : Cond.methodLink RX4 28 yJ0_charAt_5068e ∈ mm_TB := mm_tb (mm_t2 (List.mem_of_getElem? (i := 129) rfl)) rfl
theorem wi_J0_charAt_5068e : Cond.instanceMethod yJ0_charAt_5068e ∈ mm_TB := mm_tb (mm_t2 (List.mem_of_getElem? (i := 130) rfl)) rfl
theorem ws_J0_charAt_5068e : Cond.selects RJ0 yJ0_charAt_5068e yJ0_charAt_5068e ∈ mm_TB := mm_tb (mm_t2 (List.mem_of_getElem? (i := 131) rfl)) rfl
theorem wc_J0_charAt_5068e : Cond.code yJ0_charAt_5068e cJ0_charAt_5068e 2 (some .char) ∈ mm_TB := mm_tb (mm_t2 (List.mem_of_getElem? (i := 132) rfl)) rfl
theorem wl_J0_492 : Cond.methodLink RJ0 492 yJ0_isLatin1_aae02 ∈ mm_TB := mm_tb (mm_t2 (List.mem_of_getElem? (i := 133) rfl)) rfl
theorem wi_J0_isLatin1_aae02 : Cond.instanceMethod yJ0_isLatin1_aae02 ∈ mm_TB := mm_tb (mm_t2 (List.mem_of_getElem? (i := 134) rfl)) rfl
theorem ws_J0_isLatin1_aae02 : Cond.selects RJ0 yJ0_isLatin1_aae02 yJ0_isLatin1_aae02 ∈ mm_TB := mm_tb (mm_t2 (List.mem_of_getElem? (i := 135) rfl)) rfl
theorem wc_J0_isLatin1_aae02 : Cond.code yJ0_isLatin1_aae02 cJ0_isLatin1_aae02 1 (some .boolean) ∈ mm_TB := mm_tb (mm_t2 (List.mem_of_getElem? (i := 136) rfl)) rfl
theorem wf_J0_38 : Cond.fieldLink RJ0 38 "java/lang/String" "COMPACT_STRINGS" "Z" ∈ mm_TB := mm_tb (mm_t2 (List.mem_of_getElem? (i := 137) rfl)) rfl
theorem wl_J0_495 : Cond.methodLink RJ0 495 yJ1_charAt_3b067 ∈ mm_TB := mm_tb (mm_t2 (List.mem_of_getElem? (i := 139) rfl)) rfl
theorem wt_J1_charAt_3b067 : Cond.static yJ1_charAt_3b067 ∈ mm_TB := mm_tb (mm_t2 (List.mem_of_getElem? (i := 140) rfl)) rfl
theorem wc_J1_charAt_3b067 : Cond.code yJ1_charAt_3b067 cJ1_charAt_3b067 2 (some .char) ∈ mm_TB := mm_tb (mm_t2 (List.mem_of_getElem? (i := 141) rfl)) rfl
theorem wl_J1_9 : Cond.methodLink RJ1 9 yJ0_checkIndex_df160 ∈ mm_TB := mm_tb (mm_t2 (List.mem_of_getElem? (i := 142) rfl)) rfl
theorem wt_J0_checkIndex_df160 : Cond.static yJ0_checkIndex_df160 ∈ mm_TB := mm_tb (mm_t2 (List.mem_of_getElem? (i := 143) rfl)) rfl
theorem wc_J0_checkIndex_df160 : Cond.code yJ0_checkIndex_df160 cJ0_checkIndex_df160 2 none ∈ mm_TB := mm_tb (mm_t2 (List.mem_of_getElem? (i := 144) rfl)) rfl
theorem wf_J0_1053 : Cond.fieldLink RJ0 1053 "jdk/internal/util/Preconditions" "SIOOBE_FORMATTER" "Ljava/util/function/BiFunction;" ∈ mm_TB := mm_tb (mm_t2 (List.mem_of_getElem? (i := 145) rfl)) rfl
theorem wl_J0_1059 : Cond.methodLink RJ0 1059 yJ3_checkIndex_8e157 ∈ mm_TB := mm_tb (mm_t2 (List.mem_of_getElem? (i := 147) rfl)) rfl
theorem wt_J3_checkIndex_8e157 : Cond.static yJ3_checkIndex_8e157 ∈ mm_TB := mm_tb (mm_t2 (List.mem_of_getElem? (i := 148) rfl)) rfl
theorem wc_J3_checkIndex_8e157 : Cond.code yJ3_checkIndex_8e157 cJ3_checkIndex_8e157 3 (some .int) ∈ mm_TB := mm_tb (mm_t2 (List.mem_of_getElem? (i := 149) rfl)) rfl
theorem wl_J0_498 : Cond.methodLink RJ0 498 yJ2_charAt_3b067 ∈ mm_TB := mm_tb (mm_t2 (List.mem_of_getElem? (i := 150) rfl)) rfl
theorem wt_J2_charAt_3b067 : Cond.static yJ2_charAt_3b067 ∈ mm_TB := mm_tb (mm_t2 (List.mem_of_getElem? (i := 151) rfl)) rfl
theorem wc_J2_charAt_3b067 : Cond.code yJ2_charAt_3b067 cJ2_charAt_3b067 2 (some .char) ∈ mm_TB := mm_tb (mm_t2 (List.mem_of_getElem? (i := 152) rfl)) rfl
theorem wl_J2_67 : Cond.methodLink RJ2 67 yJ2_checkIndex_2214a ∈ mm_TB := mm_tb (mm_t2 (List.mem_of_getElem? (i := 153) rfl)) rfl
theorem wt_J2_checkIndex_2214a : Cond.static yJ2_checkIndex_2214a ∈ mm_TB := mm_tb (mm_t2 (List.mem_of_getElem? (i := 154) rfl)) rfl
theorem wc_J2_checkIndex_2214a : Cond.code yJ2_checkIndex_2214a cJ2_checkIndex_2214a 2 none ∈ mm_TB := mm_tb (mm_t2 (List.mem_of_getElem? (i := 155) rfl)) rfl
theorem wl_J2_48 : Cond.methodLink RJ2 48 yJ2_length_9d52b ∈ mm_TB := mm_tb (mm_t2 (List.mem_of_getElem? (i := 156) rfl)) rfl
theorem wt_J2_length_9d52b : Cond.static yJ2_length_9d52b ∈ mm_TB := mm_tb (mm_t2 (List.mem_of_getElem? (i := 157) rfl)) rfl
theorem wc_J2_length_9d52b : Cond.code yJ2_length_9d52b cJ2_length_9d52b 1 (some .int) ∈ mm_TB := mm_tb (mm_t2 (List.mem_of_getElem? (i := 158) rfl)) rfl
theorem wl_J2_414 : Cond.methodLink RJ2 414 yJ0_checkIndex_df160 ∈ mm_TB := mm_tb (mm_t2 (List.mem_of_getElem? (i := 159) rfl)) rfl
theorem wl_J2_71 : Cond.methodLink RJ2 71 yJ2_getChar_3b067 ∈ mm_TB := mm_tb (mm_t2 (List.mem_of_getElem? (i := 160) rfl)) rfl
theorem wt_J2_getChar_3b067 : Cond.static yJ2_getChar_3b067 ∈ mm_TB := mm_tb (mm_t2 (List.mem_of_getElem? (i := 161) rfl)) rfl
theorem wc_J2_getChar_3b067 : Cond.code yJ2_getChar_3b067 cJ2_getChar_3b067 2 (some .char) ∈ mm_TB := mm_tb (mm_t2 (List.mem_of_getElem? (i := 162) rfl)) rfl
theorem wf_J2_44 : Cond.fieldLink RJ2 44 "java/lang/StringUTF16" "$assertionsDisabled" "Z" ∈ mm_TB := mm_tb (mm_t2 (List.mem_of_getElem? (i := 163) rfl)) rfl
theorem wf_J2_59 : Cond.fieldLink RJ2 59 "java/lang/StringUTF16" "HI_BYTE_SHIFT" "I" ∈ mm_TB := mm_tb (mm_t2 (List.mem_of_getElem? (i := 165) rfl)) rfl
theorem wf_J2_63 : Cond.fieldLink RJ2 63 "java/lang/StringUTF16" "LO_BYTE_SHIFT" "I" ∈ mm_TB := mm_tb (mm_t2 (List.mem_of_getElem? (i := 167) rfl)) rfl
theorem wl_X4_40 : Cond.methodLink RX4 40 yX4_readNumber ∈ mm_TB := mm_tb (mm_t2 (List.mem_of_getElem? (i := 171) rfl)) rfl
theorem wi_X4_readNumber : Cond.instanceMethod yX4_readNumber ∈ mm_TB := mm_tb (mm_t2 (List.mem_of_getElem? (i := 173) rfl)) rfl
theorem wc_X4_readNumber : Cond.code yX4_readNumber cX4_readNumber 5 (some .int) ∈ mm_TB := mm_tb (mm_t2 (List.mem_of_getElem? (i := 174) rfl)) rfl
theorem wk_X4_72 : Cond.constant RX4 72 (100000) ∈ mm_TB := mm_tb (mm_t2 (List.mem_of_getElem? (i := 175) rfl)) rfl
theorem wl_X4_73 : Cond.methodLink RX4 73 Lib.Math.min.name ∈ mm_TB := mm_tb (mm_t2 (List.mem_of_getElem? (i := 176) rfl)) rfl
theorem wt_Mmin : Cond.static Lib.Math.min.name ∈ mm_TB := mm_tb (mm_t2 (List.mem_of_getElem? (i := 177) rfl)) rfl
theorem wc_Mmin : Cond.code Lib.Math.min.name Lib.Math.min.code 2 (some .int) ∈ mm_TB := mm_tb (mm_t2 (List.mem_of_getElem? (i := 178) rfl)) rfl
theorem wl_X4_44 : Cond.methodLink RX4 44 yX4_fault ∈ mm_TB := mm_tb (mm_t2 (List.mem_of_getElem? (i := 179) rfl)) rfl
theorem wi_X4_fault : Cond.instanceMethod yX4_fault ∈ mm_TB := mm_tb (mm_t2 (List.mem_of_getElem? (i := 181) rfl)) rfl
theorem wc_X4_fault : Cond.code yX4_fault cX4_fault 1 (some .int) ∈ mm_TB := mm_tb (mm_t2 (List.mem_of_getElem? (i := 182) rfl)) rfl
theorem wl_L_56 : Cond.methodLink RL 56 yX6_people ∈ mm_TB := mm_tb (mm_t2 (List.mem_of_getElem? (i := 184) rfl)) rfl
theorem wi_X6_people : Cond.instanceMethod yX6_people ∈ mm_TB := mm_tb (mm_t2 (List.mem_of_getElem? (i := 185) rfl)) rfl
theorem ws_X6_people : Cond.selects RX6 yX6_people yX6_people ∈ mm_TB := mm_tb (mm_t2 (List.mem_of_getElem? (i := 186) rfl)) rfl
theorem wc_X6_people : Cond.code yX6_people cX6_people 2 (some .int) ∈ mm_TB := mm_tb (mm_t2 (List.mem_of_getElem? (i := 187) rfl)) rfl
theorem wl_X6_113 : Cond.methodLink RX6 113 yX4_readPeople ∈ mm_TB := mm_tb (mm_t2 (List.mem_of_getElem? (i := 188) rfl)) rfl
theorem wi_X4_readPeople : Cond.instanceMethod yX4_readPeople ∈ mm_TB := mm_tb (mm_t2 (List.mem_of_getElem? (i := 189) rfl)) rfl
theorem ws_X4_readPeople : Cond.selects RX4 yX4_readPeople yX4_readPeople ∈ mm_TB := mm_tb (mm_t2 (List.mem_of_getElem? (i := 190) rfl)) rfl
theorem wc_X4_readPeople : Cond.code yX4_readPeople cX4_readPeople 4 (some .int) ∈ mm_TB := mm_tb (mm_t2 (List.mem_of_getElem? (i := 191) rfl)) rfl
theorem wl_X4_47 : Cond.methodLink RX4 47 yX4_readPerson ∈ mm_TB := mm_tb (mm_t2 (List.mem_of_getElem? (i := 192) rfl)) rfl
theorem wi_X4_readPerson : Cond.instanceMethod yX4_readPerson ∈ mm_TB := mm_tb (mm_t2 (List.mem_of_getElem? (i := 194) rfl)) rfl
theorem wc_X4_readPerson : Cond.code yX4_readPerson cX4_readPerson 3 (some .boolean) ∈ mm_TB := mm_tb (mm_t2 (List.mem_of_getElem? (i := 195) rfl)) rfl
theorem wl_X4_59 : Cond.methodLink RX4 59 yX4_readLetter ∈ mm_TB := mm_tb (mm_t2 (List.mem_of_getElem? (i := 199) rfl)) rfl
theorem wi_X4_readLetter : Cond.instanceMethod yX4_readLetter ∈ mm_TB := mm_tb (mm_t2 (List.mem_of_getElem? (i := 201) rfl)) rfl
theorem wc_X4_readLetter : Cond.code yX4_readLetter cX4_readLetter 4 (some .int) ∈ mm_TB := mm_tb (mm_t2 (List.mem_of_getElem? (i := 202) rfl)) rfl
theorem wl_X4_68 : Cond.methodLink RX4 68 yJ0_indexOf_0f7a4 ∈ mm_TB := mm_tb (mm_t2 (List.mem_of_getElem? (i := 203) rfl)) rfl
theorem wi_J0_indexOf_0f7a4 : Cond.instanceMethod yJ0_indexOf_0f7a4 ∈ mm_TB := mm_tb (mm_t2 (List.mem_of_getElem? (i := 204) rfl)) rfl
theorem ws_J0_indexOf_0f7a4 : Cond.selects RJ0 yJ0_indexOf_0f7a4 yJ0_indexOf_0f7a4 ∈ mm_TB := mm_tb (mm_t2 (List.mem_of_getElem? (i := 205) rfl)) rfl
theorem wc_J0_indexOf_0f7a4 : Cond.code yJ0_indexOf_0f7a4 cJ0_indexOf_0f7a4 2 (some .int) ∈ mm_TB := mm_tb (mm_t2 (List.mem_of_getElem? (i := 206) rfl)) rfl
theorem wl_J0_633 : Cond.methodLink RJ0 633 yJ0_indexOf_7cf53 ∈ mm_TB := mm_tb (mm_t2 (List.mem_of_getElem? (i := 207) rfl)) rfl
theorem wi_J0_indexOf_7cf53 : Cond.instanceMethod yJ0_indexOf_7cf53 ∈ mm_TB := mm_tb (mm_t2 (List.mem_of_getElem? (i := 208) rfl)) rfl
theorem ws_J0_indexOf_7cf53 : Cond.selects RJ0 yJ0_indexOf_7cf53 yJ0_indexOf_7cf53 ∈ mm_TB := mm_tb (mm_t2 (List.mem_of_getElem? (i := 209) rfl)) rfl
theorem wc_J0_indexOf_7cf53 : Cond.code yJ0_indexOf_7cf53 cJ0_indexOf_7cf53 3 (some .int) ∈ mm_TB := mm_tb (mm_t2 (List.mem_of_getElem? (i := 210) rfl)) rfl
theorem wl_J0_505 : Cond.methodLink RJ0 505 yJ0_length_8abf5 ∈ mm_TB := mm_tb (mm_t2 (List.mem_of_getElem? (i := 211) rfl)) rfl
theorem wi_J0_length_8abf5 : Cond.instanceMethod yJ0_length_8abf5 ∈ mm_TB := mm_tb (mm_t2 (List.mem_of_getElem? (i := 212) rfl)) rfl
theorem ws_J0_length_8abf5 : Cond.selects RJ0 yJ0_length_8abf5 yJ0_length_8abf5 ∈ mm_TB := mm_tb (mm_t2 (List.mem_of_getElem? (i := 213) rfl)) rfl
theorem wc_J0_length_8abf5 : Cond.code yJ0_length_8abf5 cJ0_length_8abf5 1 (some .int) ∈ mm_TB := mm_tb (mm_t2 (List.mem_of_getElem? (i := 214) rfl)) rfl
theorem wl_J0_335 : Cond.methodLink RJ0 335 yJ0_coder_7d493 ∈ mm_TB := mm_tb (mm_t2 (List.mem_of_getElem? (i := 215) rfl)) rfl
theorem wi_J0_coder_7d493 : Cond.instanceMethod yJ0_coder_7d493 ∈ mm_TB := mm_tb (mm_t2 (List.mem_of_getElem? (i := 216) rfl)) rfl
theorem ws_J0_coder_7d493 : Cond.selects RJ0 yJ0_coder_7d493 yJ0_coder_7d493 ∈ mm_TB := mm_tb (mm_t2 (List.mem_of_getElem? (i := 217) rfl)) rfl
theorem wc_J0_coder_7d493 : Cond.code yJ0_coder_7d493 cJ0_coder_7d493 1 (some .byte) ∈ mm_TB := mm_tb (mm_t2 (List.mem_of_getElem? (i := 218) rfl)) rfl
theorem wl_J0_637 : Cond.methodLink RJ0 637 yJ1_indexOf_4cfef ∈ mm_TB := mm_tb (mm_t2 (List.mem_of_getElem? (i := 219) rfl)) rfl
theorem wt_J1_indexOf_4cfef : Cond.static yJ1_indexOf_4cfef ∈ mm_TB := mm_tb (mm_t2 (List.mem_of_getElem? (i := 220) rfl)) rfl
theorem wc_J1_indexOf_4cfef : Cond.code yJ1_indexOf_4cfef cJ1_indexOf_4cfef 4 (some .int) ∈ mm_TB := mm_tb (mm_t2 (List.mem_of_getElem? (i := 221) rfl)) rfl
theorem wl_J1_88 : Cond.methodLink RJ1 88 yJ1_canEncode_9a6ad ∈ mm_TB := mm_tb (mm_t2 (List.mem_of_getElem? (i := 222) rfl)) rfl
theorem wt_J1_canEncode_9a6ad : Cond.static yJ1_canEncode_9a6ad ∈ mm_TB := mm_tb (mm_t2 (List.mem_of_getElem? (i := 223) rfl)) rfl
theorem wc_J1_canEncode_9a6ad : Cond.code yJ1_canEncode_9a6ad cJ1_canEncode_9a6ad 1 (some .boolean) ∈ mm_TB := mm_tb (mm_t2 (List.mem_of_getElem? (i := 224) rfl)) rfl
theorem wl_J1_92 : Cond.methodLink RJ1 92 Lib.Math.max.name ∈ mm_TB := mm_tb (mm_t2 (List.mem_of_getElem? (i := 225) rfl)) rfl
theorem wl_J1_38 : Cond.methodLink RJ1 38 Lib.Math.min.name ∈ mm_TB := mm_tb (mm_t2 (List.mem_of_getElem? (i := 226) rfl)) rfl
theorem wl_J1_95 : Cond.methodLink RJ1 95 yJ1_indexOfChar_4cfef ∈ mm_TB := mm_tb (mm_t2 (List.mem_of_getElem? (i := 227) rfl)) rfl
theorem wt_J1_indexOfChar_4cfef : Cond.static yJ1_indexOfChar_4cfef ∈ mm_TB := mm_tb (mm_t2 (List.mem_of_getElem? (i := 228) rfl)) rfl
theorem wc_J1_indexOfChar_4cfef : Cond.code yJ1_indexOfChar_4cfef cJ1_indexOfChar_4cfef 6 (some .int) ∈ mm_TB := mm_tb (mm_t2 (List.mem_of_getElem? (i := 229) rfl)) rfl
theorem wl_J0_640 : Cond.methodLink RJ0 640 yJ2_indexOf_4cfef ∈ mm_TB := mm_tb (mm_t2 (List.mem_of_getElem? (i := 230) rfl)) rfl
theorem wt_J2_indexOf_4cfef : Cond.static yJ2_indexOf_4cfef ∈ mm_TB := mm_tb (mm_t2 (List.mem_of_getElem? (i := 231) rfl)) rfl
theorem wc_J2_indexOf_4cfef : Cond.code yJ2_indexOf_4cfef cJ2_indexOf_4cfef 4 (some .int) ∈ mm_TB := mm_tb (mm_t2 (List.mem_of_getElem? (i := 232) rfl)) rfl
theorem wl_J2_224 : Cond.methodLink RJ2 224 Lib.Math.max.name ∈ mm_TB := mm_tb (mm_t2 (List.mem_of_getElem? (i := 233) rfl)) rfl
theorem wl_J2_183 : Cond.methodLink RJ2 183 Lib.Math.min.name ∈ mm_TB := mm_tb (mm_t2 (List.mem_of_getElem? (i := 234) rfl)) rfl
theorem wk_J2_227 : Cond.constant RJ2 227 (65536) ∈ mm_TB := mm_tb (mm_t2 (List.mem_of_getElem? (i := 235) rfl)) rfl
theorem wl_J2_228 : Cond.methodLink RJ2 228 yJ2_indexOfChar_4cfef ∈ mm_TB := mm_tb (mm_t2 (List.mem_of_getElem? (i := 236) rfl)) rfl
theorem wt_J2_indexOfChar_4cfef : Cond.static yJ2_indexOfChar_4cfef ∈ mm_TB := mm_tb (mm_t2 (List.mem_of_getElem? (i := 237) rfl)) rfl
theorem wc_J2_indexOfChar_4cfef : Cond.code yJ2_indexOfChar_4cfef cJ2_indexOfChar_4cfef 4 (some .int) ∈ mm_TB := mm_tb (mm_t2 (List.mem_of_getElem? (i := 238) rfl)) rfl
theorem wl_J2_96 : Cond.methodLink RJ2 96 yJ2_checkBoundsBeginEnd_d044e ∈ mm_TB := mm_tb (mm_t2 (List.mem_of_getElem? (i := 239) rfl)) rfl
theorem wt_J2_checkBoundsBeginEnd_d044e : Cond.static yJ2_checkBoundsBeginEnd_d044e ∈ mm_TB := mm_tb (mm_t3 (List.mem_of_getElem? (i := 0) rfl)) rfl
theorem wc_J2_checkBoundsBeginEnd_d044e : Cond.code yJ2_checkBoundsBeginEnd_d044e cJ2_checkBoundsBeginEnd_d044e 3 none ∈ mm_TB := mm_tb (mm_t3 (List.mem_of_getElem? (i := 1) rfl)) rfl
theorem wl_J2_241 : Cond.methodLink RJ2 241 yJ0_checkBoundsBeginEnd_23922 ∈ mm_TB := mm_tb (mm_t3 (List.mem_of_getElem? (i := 2) rfl)) rfl
theorem wt_J0_checkBoundsBeginEnd_23922 : Cond.static yJ0_checkBoundsBeginEnd_23922 ∈ mm_TB := mm_tb (mm_t3 (List.mem_of_getElem? (i := 3) rfl)) rfl
theorem wc_J0_checkBoundsBeginEnd_23922 : Cond.code yJ0_checkBoundsBeginEnd_23922 cJ0_checkBoundsBeginEnd_23922 3 none ∈ mm_TB := mm_tb (mm_t3 (List.mem_of_getElem? (i := 4) rfl)) rfl
theorem wl_J0_1062 : Cond.methodLink RJ0 1062 yJ3_checkFromToIndex_8c36e ∈ mm_TB := mm_tb (mm_t3 (List.mem_of_getElem? (i := 5) rfl)) rfl
theorem wt_J3_checkFromToIndex_8c36e : Cond.static yJ3_checkFromToIndex_8c36e ∈ mm_TB := mm_tb (mm_t3 (List.mem_of_getElem? (i := 6) rfl)) rfl
theorem wc_J3_checkFromToIndex_8c36e : Cond.code yJ3_checkFromToIndex_8c36e cJ3_checkFromToIndex_8c36e 4 (some .int) ∈ mm_TB := mm_tb (mm_t3 (List.mem_of_getElem? (i := 7) rfl)) rfl
theorem wl_J2_244 : Cond.methodLink RJ2 244 yJ2_indexOfCharUnsafe_4cfef ∈ mm_TB := mm_tb (mm_t3 (List.mem_of_getElem? (i := 8) rfl)) rfl
theorem wt_J2_indexOfCharUnsafe_4cfef : Cond.static yJ2_indexOfCharUnsafe_4cfef ∈ mm_TB := mm_tb (mm_t3 (List.mem_of_getElem? (i := 9) rfl)) rfl
theorem wc_J2_indexOfCharUnsafe_4cfef : Cond.code yJ2_indexOfCharUnsafe_4cfef cJ2_indexOfCharUnsafe_4cfef 5 (some .int) ∈ mm_TB := mm_tb (mm_t3 (List.mem_of_getElem? (i := 10) rfl)) rfl
theorem wl_J2_232 : Cond.methodLink RJ2 232 yJ2_indexOfSupplementary_4cfef ∈ mm_TB := mm_tb (mm_t3 (List.mem_of_getElem? (i := 11) rfl)) rfl
theorem wt_J2_indexOfSupplementary_4cfef : Cond.static yJ2_indexOfSupplementary_4cfef ∈ mm_TB := mm_tb (mm_t3 (List.mem_of_getElem? (i := 12) rfl)) rfl
theorem wc_J2_indexOfSupplementary_4cfef : Cond.code yJ2_indexOfSupplementary_4cfef cJ2_indexOfSupplementary_4cfef 7 (some .int) ∈ mm_TB := mm_tb (mm_t3 (List.mem_of_getElem? (i := 13) rfl)) rfl
theorem wl_J2_164 : Cond.methodLink RJ2 164 yJ11_isValidCodePoint_9a6ad ∈ mm_TB := mm_tb (mm_t3 (List.mem_of_getElem? (i := 14) rfl)) rfl
theorem wt_J11_isValidCodePoint_9a6ad : Cond.static yJ11_isValidCodePoint_9a6ad ∈ mm_TB := mm_tb (mm_t3 (List.mem_of_getElem? (i := 15) rfl)) rfl
theorem wc_J11_isValidCodePoint_9a6ad : Cond.code yJ11_isValidCodePoint_9a6ad cJ11_isValidCodePoint_9a6ad 2 (some .boolean) ∈ mm_TB := mm_tb (mm_t3 (List.mem_of_getElem? (i := 16) rfl)) rfl
theorem wl_J2_157 : Cond.methodLink RJ2 157 yJ11_highSurrogate_5068e ∈ mm_TB := mm_tb (mm_t3 (List.mem_of_getElem? (i := 17) rfl)) rfl
theorem wt_J11_highSurrogate_5068e : Cond.static yJ11_highSurrogate_5068e ∈ mm_TB := mm_tb (mm_t3 (List.mem_of_getElem? (i := 18) rfl)) rfl
theorem wc_J11_highSurrogate_5068e : Cond.code yJ11_highSurrogate_5068e cJ11_highSurrogate_5068e 1 (some .char) ∈ mm_TB := mm_tb (mm_t3 (List.mem_of_getElem? (i := 19) rfl)) rfl
theorem wk_J11_110 : Cond.constant RJ11 110 (55232) ∈ mm_TB := mm_tb (mm_t3 (List.mem_of_getElem? (i := 20) rfl)) rfl
theorem wl_J2_161 : Cond.methodLink RJ2 161 yJ11_lowSurrogate_5068e ∈ mm_TB := mm_tb (mm_t3 (List.mem_of_getElem? (i := 21) rfl)) rfl
theorem wt_J11_lowSurrogate_5068e : Cond.static yJ11_lowSurrogate_5068e ∈ mm_TB := mm_tb (mm_t3 (List.mem_of_getElem? (i := 22) rfl)) rfl
theorem wc_J11_lowSurrogate_5068e : Cond.code yJ11_lowSurrogate_5068e cJ11_lowSurrogate_5068e 1 (some .char) ∈ mm_TB := mm_tb (mm_t3 (List.mem_of_getElem? (i := 23) rfl)) rfl
theorem wk_J11_76 : Cond.constant RJ11 76 (56320) ∈ mm_TB := mm_tb (mm_t3 (List.mem_of_getElem? (i := 24) rfl)) rfl
theorem wl_X4_65 : Cond.methodLink RX4 65 yX4_readTrips ∈ mm_TB := mm_tb (mm_t3 (List.mem_of_getElem? (i := 26) rfl)) rfl
theorem wi_X4_readTrips : Cond.instanceMethod yX4_readTrips ∈ mm_TB := mm_tb (mm_t3 (List.mem_of_getElem? (i := 28) rfl)) rfl
theorem wc_X4_readTrips : Cond.code yX4_readTrips cX4_readTrips 2 (some .int) ∈ mm_TB := mm_tb (mm_t3 (List.mem_of_getElem? (i := 29) rfl)) rfl
theorem wl_X6_116 : Cond.methodLink RX6 116 yX6_enlistAll ∈ mm_TB := mm_tb (mm_t3 (List.mem_of_getElem? (i := 30) rfl)) rfl
theorem wi_X6_enlistAll : Cond.instanceMethod yX6_enlistAll ∈ mm_TB := mm_tb (mm_t3 (List.mem_of_getElem? (i := 32) rfl)) rfl
theorem wc_X6_enlistAll : Cond.code yX6_enlistAll cX6_enlistAll 5 (some .int) ∈ mm_TB := mm_tb (mm_t3 (List.mem_of_getElem? (i := 33) rfl)) rfl
theorem wl_L_60 : Cond.methodLink RL 60 yX6_count ∈ mm_TB := mm_tb (mm_t3 (List.mem_of_getElem? (i := 34) rfl)) rfl
theorem wi_X6_count : Cond.instanceMethod yX6_count ∈ mm_TB := mm_tb (mm_t3 (List.mem_of_getElem? (i := 35) rfl)) rfl
theorem ws_X6_count : Cond.selects RX6 yX6_count yX6_count ∈ mm_TB := mm_tb (mm_t3 (List.mem_of_getElem? (i := 36) rfl)) rfl
theorem wc_X6_count : Cond.code yX6_count cX6_count 5 (some .int) ∈ mm_TB := mm_tb (mm_t3 (List.mem_of_getElem? (i := 37) rfl)) rfl
theorem wl_L_64 : Cond.methodLink RL 64 yX6_fate ∈ mm_TB := mm_tb (mm_t3 (List.mem_of_getElem? (i := 38) rfl)) rfl
theorem wi_X6_fate : Cond.instanceMethod yX6_fate ∈ mm_TB := mm_tb (mm_t3 (List.mem_of_getElem? (i := 39) rfl)) rfl
theorem ws_X6_fate : Cond.selects RX6 yX6_fate yX6_fate ∈ mm_TB := mm_tb (mm_t3 (List.mem_of_getElem? (i := 40) rfl)) rfl
theorem wc_X6_fate : Cond.code yX6_fate cX6_fate 4 (some .int) ∈ mm_TB := mm_tb (mm_t3 (List.mem_of_getElem? (i := 41) rfl)) rfl
theorem wl_X6_120 : Cond.methodLink RX6 120 yX0_load ∈ mm_TB := mm_tb (mm_t3 (List.mem_of_getElem? (i := 42) rfl)) rfl
theorem wi_X0_load : Cond.instanceMethod yX0_load ∈ mm_TB := mm_tb (mm_t3 (List.mem_of_getElem? (i := 43) rfl)) rfl
theorem ws_X0_load : Cond.selects RX0 yX0_load yX0_load ∈ mm_TB := mm_tb (mm_t3 (List.mem_of_getElem? (i := 44) rfl)) rfl
theorem wc_X0_load : Cond.code yX0_load cX0_load 5 none ∈ mm_TB := mm_tb (mm_t3 (List.mem_of_getElem? (i := 45) rfl)) rfl
theorem wl_X0_31 : Cond.methodLink RX0 31 yX0_loadBridge ∈ mm_TB := mm_tb (mm_t3 (List.mem_of_getElem? (i := 46) rfl)) rfl
theorem wi_X0_loadBridge : Cond.instanceMethod yX0_loadBridge ∈ mm_TB := mm_tb (mm_t3 (List.mem_of_getElem? (i := 48) rfl)) rfl
theorem wc_X0_loadBridge : Cond.code yX0_loadBridge cX0_loadBridge 3 none ∈ mm_TB := mm_tb (mm_t3 (List.mem_of_getElem? (i := 49) rfl)) rfl
theorem wl_X0_62 : Cond.methodLink RX0 62 Lib.Math.min.name ∈ mm_TB := mm_tb (mm_t3 (List.mem_of_getElem? (i := 50) rfl)) rfl
theorem wl_X0_73 : Cond.methodLink RX0 73 arraycopyName ∈ mm_TB := mm_tb (mm_t3 (List.mem_of_getElem? (i := 51) rfl)) rfl
theorem wl_X0_43 : Cond.methodLink RX0 43 yX0_loadWalker ∈ mm_TB := mm_tb (mm_t3 (List.mem_of_getElem? (i := 52) rfl)) rfl
theorem wi_X0_loadWalker : Cond.instanceMethod yX0_loadWalker ∈ mm_TB := mm_tb (mm_t3 (List.mem_of_getElem? (i := 54) rfl)) rfl
theorem wc_X0_loadWalker : Cond.code yX0_loadWalker cX0_loadWalker 4 none ∈ mm_TB := mm_tb (mm_t3 (List.mem_of_getElem? (i := 55) rfl)) rfl
theorem wl_X0_79 : Cond.methodLink RX0 79 yX3_paceOf ∈ mm_TB := mm_tb (mm_t3 (List.mem_of_getElem? (i := 56) rfl)) rfl
theorem wl_X0_86 : Cond.methodLink RX0 86 yX3_isSpiting ∈ mm_TB := mm_tb (mm_t3 (List.mem_of_getElem? (i := 57) rfl)) rfl
theorem wi_X3_isSpiting : Cond.instanceMethod yX3_isSpiting ∈ mm_TB := mm_tb (mm_t3 (List.mem_of_getElem? (i := 58) rfl)) rfl
theorem ws_X3_isSpiting : Cond.selects RX3 yX3_isSpiting yX3_isSpiting ∈ mm_TB := mm_tb (mm_t3 (List.mem_of_getElem? (i := 59) rfl)) rfl
theorem wc_X3_isSpiting : Cond.code yX3_isSpiting cX3_isSpiting 2 (some .boolean) ∈ mm_TB := mm_tb (mm_t3 (List.mem_of_getElem? (i := 60) rfl)) rfl
theorem wl_X6_124 : Cond.methodLink RX6 124 yX0_run ∈ mm_TB := mm_tb (mm_t3 (List.mem_of_getElem? (i := 61) rfl)) rfl
theorem wi_X0_run : Cond.instanceMethod yX0_run ∈ mm_TB := mm_tb (mm_t3 (List.mem_of_getElem? (i := 62) rfl)) rfl
theorem ws_X0_run : Cond.selects RX0 yX0_run yX0_run ∈ mm_TB := mm_tb (mm_t3 (List.mem_of_getElem? (i := 63) rfl)) rfl
theorem wc_X0_run : Cond.code yX0_run cX0_run 5 none ∈ mm_TB := mm_tb (mm_t3 (List.mem_of_getElem? (i := 64) rfl)) rfl
theorem wl_X0_97 : Cond.methodLink RX0 97 yX0_begin ∈ mm_TB := mm_tb (mm_t3 (List.mem_of_getElem? (i := 65) rfl)) rfl
theorem wi_X0_begin : Cond.instanceMethod yX0_begin ∈ mm_TB := mm_tb (mm_t3 (List.mem_of_getElem? (i := 67) rfl)) rfl
theorem wc_X0_begin : Cond.code yX0_begin cX0_begin 2 none ∈ mm_TB := mm_tb (mm_t3 (List.mem_of_getElem? (i := 68) rfl)) rfl
theorem wl_X0_131 : Cond.methodLink RX0 131 yX5_begin ∈ mm_TB := mm_tb (mm_t3 (List.mem_of_getElem? (i := 69) rfl)) rfl
theorem wi_X5_begin : Cond.instanceMethod yX5_begin ∈ mm_TB := mm_tb (mm_t3 (List.mem_of_getElem? (i := 70) rfl)) rfl
theorem ws_X5_begin : Cond.selects RX5 yX5_begin yX5_begin ∈ mm_TB := mm_tb (mm_t3 (List.mem_of_getElem? (i := 71) rfl)) rfl
theorem wc_X5_begin : Cond.code yX5_begin cX5_begin 1 none ∈ mm_TB := mm_tb (mm_t3 (List.mem_of_getElem? (i := 72) rfl)) rfl
theorem wl_X0_100 : Cond.methodLink RX0 100 yX0_haveNight ∈ mm_TB := mm_tb (mm_t3 (List.mem_of_getElem? (i := 73) rfl)) rfl
theorem wi_X0_haveNight : Cond.instanceMethod yX0_haveNight ∈ mm_TB := mm_tb (mm_t3 (List.mem_of_getElem? (i := 75) rfl)) rfl
theorem wc_X0_haveNight : Cond.code yX0_haveNight cX0_haveNight 2 none ∈ mm_TB := mm_tb (mm_t3 (List.mem_of_getElem? (i := 76) rfl)) rfl
theorem wl_X0_135 : Cond.methodLink RX0 135 Lib.Math.max.name ∈ mm_TB := mm_tb (mm_t3 (List.mem_of_getElem? (i := 77) rfl)) rfl
theorem wl_X0_104 : Cond.methodLink RX0 104 yX0_walk ∈ mm_TB := mm_tb (mm_t3 (List.mem_of_getElem? (i := 78) rfl)) rfl
theorem wi_X0_walk : Cond.instanceMethod yX0_walk ∈ mm_TB := mm_tb (mm_t3 (List.mem_of_getElem? (i := 80) rfl)) rfl
theorem wc_X0_walk : Cond.code yX0_walk cX0_walk 3 none ∈ mm_TB := mm_tb (mm_t3 (List.mem_of_getElem? (i := 81) rfl)) rfl
theorem wl_X0_119 : Cond.methodLink RX0 119 yX5_pass ∈ mm_TB := mm_tb (mm_t3 (List.mem_of_getElem? (i := 82) rfl)) rfl
theorem wi_X5_pass : Cond.instanceMethod yX5_pass ∈ mm_TB := mm_tb (mm_t3 (List.mem_of_getElem? (i := 83) rfl)) rfl
theorem ws_X5_pass : Cond.selects RX5 yX5_pass yX5_pass ∈ mm_TB := mm_tb (mm_t3 (List.mem_of_getElem? (i := 84) rfl)) rfl
theorem wc_X5_pass : Cond.code yX5_pass cX5_pass 2 none ∈ mm_TB := mm_tb (mm_t3 (List.mem_of_getElem? (i := 85) rfl)) rfl
theorem wl_X0_107 : Cond.methodLink RX0 107 yX0_stepOff ∈ mm_TB := mm_tb (mm_t3 (List.mem_of_getElem? (i := 86) rfl)) rfl
theorem wi_X0_stepOff : Cond.instanceMethod yX0_stepOff ∈ mm_TB := mm_tb (mm_t3 (List.mem_of_getElem? (i := 88) rfl)) rfl
theorem wc_X0_stepOff : Cond.code yX0_stepOff cX0_stepOff 3 none ∈ mm_TB := mm_tb (mm_t3 (List.mem_of_getElem? (i := 89) rfl)) rfl
theorem wl_X0_144 : Cond.methodLink RX0 144 yX0_stepOffFrom ∈ mm_TB := mm_tb (mm_t3 (List.mem_of_getElem? (i := 90) rfl)) rfl
theorem wi_X0_stepOffFrom : Cond.instanceMethod yX0_stepOffFrom ∈ mm_TB := mm_tb (mm_t3 (List.mem_of_getElem? (i := 92) rfl)) rfl
theorem wc_X0_stepOffFrom : Cond.code yX0_stepOffFrom cX0_stepOffFrom 7 (some .int) ∈ mm_TB := mm_tb (mm_t3 (List.mem_of_getElem? (i := 93) rfl)) rfl
theorem wl_X0_150 : Cond.methodLink RX0 150 yX0_isHeldBack ∈ mm_TB := mm_tb (mm_t3 (List.mem_of_getElem? (i := 94) rfl)) rfl
theorem wi_X0_isHeldBack : Cond.instanceMethod yX0_isHeldBack ∈ mm_TB := mm_tb (mm_t3 (List.mem_of_getElem? (i := 96) rfl)) rfl
theorem wc_X0_isHeldBack : Cond.code yX0_isHeldBack cX0_isHeldBack 4 (some .boolean) ∈ mm_TB := mm_tb (mm_t3 (List.mem_of_getElem? (i := 97) rfl)) rfl
theorem wl_X0_157 : Cond.methodLink RX0 157 yX5_comeOver ∈ mm_TB := mm_tb (mm_t3 (List.mem_of_getElem? (i := 98) rfl)) rfl
theorem wi_X5_comeOver : Cond.instanceMethod yX5_comeOver ∈ mm_TB := mm_tb (mm_t3 (List.mem_of_getElem? (i := 99) rfl)) rfl
theorem ws_X5_comeOver : Cond.selects RX5 yX5_comeOver yX5_comeOver ∈ mm_TB := mm_tb (mm_t3 (List.mem_of_getElem? (i := 100) rfl)) rfl
theorem wc_X5_comeOver : Cond.code yX5_comeOver cX5_comeOver 2 none ∈ mm_TB := mm_tb (mm_t3 (List.mem_of_getElem? (i := 101) rfl)) rfl
theorem wl_X0_160 : Cond.methodLink RX0 160 yJ6_bitCount_0f7a4 ∈ mm_TB := mm_tb (mm_t3 (List.mem_of_getElem? (i := 102) rfl)) rfl
theorem wt_J6_bitCount_0f7a4 : Cond.static yJ6_bitCount_0f7a4 ∈ mm_TB := mm_tb (mm_t3 (List.mem_of_getElem? (i := 103) rfl)) rfl
theorem wc_J6_bitCount_0f7a4 : Cond.code yJ6_bitCount_0f7a4 cJ6_bitCount_0f7a4 1 (some .int) ∈ mm_TB := mm_tb (mm_t3 (List.mem_of_getElem? (i := 104) rfl)) rfl
theorem wk_J6_265 : Cond.constant RJ6 265 (1431655765) ∈ mm_TB := mm_tb (mm_t3 (List.mem_of_getElem? (i := 105) rfl)) rfl
theorem wk_J6_266 : Cond.constant RJ6 266 (858993459) ∈ mm_TB := mm_tb (mm_t3 (List.mem_of_getElem? (i := 106) rfl)) rfl
theorem wk_J6_267 : Cond.constant RJ6 267 (252645135) ∈ mm_TB := mm_tb (mm_t3 (List.mem_of_getElem? (i := 107) rfl)) rfl
theorem wl_X0_165 : Cond.methodLink RX0 165 yX0_countOf ∈ mm_TB := mm_tb (mm_t3 (List.mem_of_getElem? (i := 108) rfl)) rfl
theorem wi_X0_countOf : Cond.instanceMethod yX0_countOf ∈ mm_TB := mm_tb (mm_t3 (List.mem_of_getElem? (i := 110) rfl)) rfl
theorem wc_X0_countOf : Cond.code yX0_countOf cX0_countOf 4 (some .int) ∈ mm_TB := mm_tb (mm_t3 (List.mem_of_getElem? (i := 111) rfl)) rfl
theorem wl_X0_110 : Cond.methodLink RX0 110 yX0_comeByFord ∈ mm_TB := mm_tb (mm_t3 (List.mem_of_getElem? (i := 112) rfl)) rfl
theorem wi_X0_comeByFord : Cond.instanceMethod yX0_comeByFord ∈ mm_TB := mm_tb (mm_t3 (List.mem_of_getElem? (i := 114) rfl)) rfl
theorem wc_X0_comeByFord : Cond.code yX0_comeByFord cX0_comeByFord 4 none ∈ mm_TB := mm_tb (mm_t3 (List.mem_of_getElem? (i := 115) rfl)) rfl
theorem wl_X0_113 : Cond.methodLink RX0 113 yX0_start ∈ mm_TB := mm_tb (mm_t3 (List.mem_of_getElem? (i := 116) rfl)) rfl
theorem wi_X0_start : Cond.instanceMethod yX0_start ∈ mm_TB := mm_tb (mm_t3 (List.mem_of_getElem? (i := 118) rfl)) rfl
theorem wc_X0_start : Cond.code yX0_start cX0_start 4 none ∈ mm_TB := mm_tb (mm_t3 (List.mem_of_getElem? (i := 119) rfl)) rfl
theorem wt_X6_cutUp : Cond.static yX6_cutUp ∈ mm_TB := mm_tb (mm_t3 (List.mem_of_getElem? (i := 121) rfl)) rfl
theorem wc_X6_cutUp : Cond.code yX6_cutUp cX6_cutUp 2 (some .int) ∈ mm_TB := mm_tb (mm_t3 (List.mem_of_getElem? (i := 122) rfl)) rfl
theorem wl_X0_178 : Cond.methodLink RX0 178 yX5_startByFord ∈ mm_TB := mm_tb (mm_t3 (List.mem_of_getElem? (i := 123) rfl)) rfl
theorem wi_X5_startByFord : Cond.instanceMethod yX5_startByFord ∈ mm_TB := mm_tb (mm_t3 (List.mem_of_getElem? (i := 124) rfl)) rfl
theorem ws_X5_startByFord : Cond.selects RX5 yX5_startByFord yX5_startByFord ∈ mm_TB := mm_tb (mm_t3 (List.mem_of_getElem? (i := 125) rfl)) rfl
theorem wc_X5_startByFord : Cond.code yX5_startByFord cX5_startByFord 2 none ∈ mm_TB := mm_tb (mm_t3 (List.mem_of_getElem? (i := 126) rfl)) rfl
theorem wl_X0_181 : Cond.methodLink RX0 181 yX0_takeRope ∈ mm_TB := mm_tb (mm_t3 (List.mem_of_getElem? (i := 127) rfl)) rfl
theorem wi_X0_takeRope : Cond.instanceMethod yX0_takeRope ∈ mm_TB := mm_tb (mm_t3 (List.mem_of_getElem? (i := 129) rfl)) rfl
theorem wc_X0_takeRope : Cond.code yX0_takeRope cX0_takeRope 2 (some .boolean) ∈ mm_TB := mm_tb (mm_t3 (List.mem_of_getElem? (i := 130) rfl)) rfl
theorem wl_X0_184 : Cond.methodLink RX0 184 yX5_stepOn ∈ mm_TB := mm_tb (mm_t3 (List.mem_of_getElem? (i := 131) rfl)) rfl
theorem wi_X5_stepOn : Cond.instanceMethod yX5_stepOn ∈ mm_TB := mm_tb (mm_t3 (List.mem_of_getElem? (i := 132) rfl)) rfl
theorem ws_X5_stepOn : Cond.selects RX5 yX5_stepOn yX5_stepOn ∈ mm_TB := mm_tb (mm_t3 (List.mem_of_getElem? (i := 133) rfl)) rfl
theorem wc_X5_stepOn : Cond.code yX5_stepOn cX5_stepOn 2 none ∈ mm_TB := mm_tb (mm_t3 (List.mem_of_getElem? (i := 134) rfl)) rfl
theorem wl_X0_116 : Cond.methodLink RX0 116 yX0_quietAfter ∈ mm_TB := mm_tb (mm_t3 (List.mem_of_getElem? (i := 136) rfl)) rfl
theorem wi_X0_quietAfter : Cond.instanceMethod yX0_quietAfter ∈ mm_TB := mm_tb (mm_t3 (List.mem_of_getElem? (i := 138) rfl)) rfl
theorem wc_X0_quietAfter : Cond.code yX0_quietAfter cX0_quietAfter 4 (some .int) ∈ mm_TB := mm_tb (mm_t3 (List.mem_of_getElem? (i := 139) rfl)) rfl
theorem wl_X0_132 : Cond.methodLink RX0 132 yX5_nextTurn ∈ mm_TB := mm_tb (mm_t3 (List.mem_of_getElem? (i := 140) rfl)) rfl
theorem wi_X5_nextTurn : Cond.instanceMethod yX5_nextTurn ∈ mm_TB := mm_tb (mm_t3 (List.mem_of_getElem? (i := 141) rfl)) rfl
theorem ws_X5_nextTurn : Cond.selects RX5 yX5_nextTurn yX5_nextTurn ∈ mm_TB := mm_tb (mm_t3 (List.mem_of_getElem? (i := 142) rfl)) rfl
theorem wc_X5_nextTurn : Cond.code yX5_nextTurn cX5_nextTurn 3 (some .int) ∈ mm_TB := mm_tb (mm_t3 (List.mem_of_getElem? (i := 143) rfl)) rfl
theorem wl_X5_55 : Cond.methodLink RX5 55 Lib.Math.max.name ∈ mm_TB := mm_tb (mm_t3 (List.mem_of_getElem? (i := 145) rfl)) rfl
theorem wl_L_68 : Cond.methodLink RL 68 yX6_at ∈ mm_TB := mm_tb (mm_t3 (List.mem_of_getElem? (i := 146) rfl)) rfl
theorem wi_X6_at : Cond.instanceMethod yX6_at ∈ mm_TB := mm_tb (mm_t3 (List.mem_of_getElem? (i := 147) rfl)) rfl
theorem ws_X6_at : Cond.selects RX6 yX6_at yX6_at ∈ mm_TB := mm_tb (mm_t3 (List.mem_of_getElem? (i := 148) rfl)) rfl
theorem wc_X6_at : Cond.code yX6_at cX6_at 3 (some .int) ∈ mm_TB := mm_tb (mm_t3 (List.mem_of_getElem? (i := 149) rfl)) rfl
theorem wl_X6_154 : Cond.methodLink RX6 154 yX0_onBridgeFrom ∈ mm_TB := mm_tb (mm_t3 (List.mem_of_getElem? (i := 150) rfl)) rfl
theorem wi_X0_onBridgeFrom : Cond.instanceMethod yX0_onBridgeFrom ∈ mm_TB := mm_tb (mm_t3 (List.mem_of_getElem? (i := 151) rfl)) rfl
theorem ws_X0_onBridgeFrom : Cond.selects RX0 yX0_onBridgeFrom yX0_onBridgeFrom ∈ mm_TB := mm_tb (mm_t3 (List.mem_of_getElem? (i := 152) rfl)) rfl
theorem wc_X0_onBridgeFrom : Cond.code yX0_onBridgeFrom cX0_onBridgeFrom 4 (some .int) ∈ mm_TB := mm_tb (mm_t3 (List.mem_of_getElem? (i := 153) rfl)) rfl
theorem wl_X0_188 : Cond.methodLink RX0 188 yX5_isOnBridge ∈ mm_TB := mm_tb (mm_t3 (List.mem_of_getElem? (i := 154) rfl)) rfl
theorem wi_X5_isOnBridge : Cond.instanceMethod yX5_isOnBridge ∈ mm_TB := mm_tb (mm_t3 (List.mem_of_getElem? (i := 155) rfl)) rfl
theorem ws_X5_isOnBridge : Cond.selects RX5 yX5_isOnBridge yX5_isOnBridge ∈ mm_TB := mm_tb (mm_t3 (List.mem_of_getElem? (i := 156) rfl)) rfl
theorem wc_X5_isOnBridge : Cond.code yX5_isOnBridge cX5_isOnBridge 1 (some .boolean) ∈ mm_TB := mm_tb (mm_t3 (List.mem_of_getElem? (i := 157) rfl)) rfl
theorem wl_X6_157 : Cond.methodLink RX6 157 yX0_whoIs ∈ mm_TB := mm_tb (mm_t3 (List.mem_of_getElem? (i := 158) rfl)) rfl
theorem wi_X0_whoIs : Cond.instanceMethod yX0_whoIs ∈ mm_TB := mm_tb (mm_t3 (List.mem_of_getElem? (i := 159) rfl)) rfl
theorem ws_X0_whoIs : Cond.selects RX0 yX0_whoIs yX0_whoIs ∈ mm_TB := mm_tb (mm_t3 (List.mem_of_getElem? (i := 160) rfl)) rfl
theorem wc_X0_whoIs : Cond.code yX0_whoIs cX0_whoIs 4 (some .int) ∈ mm_TB := mm_tb (mm_t3 (List.mem_of_getElem? (i := 161) rfl)) rfl
theorem wl_L_72 : Cond.methodLink RL 72 yX6_gone ∈ mm_TB := mm_tb (mm_t3 (List.mem_of_getElem? (i := 162) rfl)) rfl
theorem wi_X6_gone : Cond.instanceMethod yX6_gone ∈ mm_TB := mm_tb (mm_t3 (List.mem_of_getElem? (i := 163) rfl)) rfl
theorem ws_X6_gone : Cond.selects RX6 yX6_gone yX6_gone ∈ mm_TB := mm_tb (mm_t3 (List.mem_of_getElem? (i := 164) rfl)) rfl
theorem wc_X6_gone : Cond.code yX6_gone cX6_gone 4 (some .int) ∈ mm_TB := mm_tb (mm_t3 (List.mem_of_getElem? (i := 165) rfl)) rfl
theorem wl_X6_163 : Cond.methodLink RX6 163 yX5_isOnBridge ∈ mm_TB := mm_tb (mm_t3 (List.mem_of_getElem? (i := 166) rfl)) rfl
theorem wl_L_76 : Cond.methodLink RL 76 yX6_all ∈ mm_TB := mm_tb (mm_t3 (List.mem_of_getElem? (i := 167) rfl)) rfl
theorem wi_X6_all : Cond.instanceMethod yX6_all ∈ mm_TB := mm_tb (mm_t3 (List.mem_of_getElem? (i := 168) rfl)) rfl
theorem ws_X6_all : Cond.selects RX6 yX6_all yX6_all ∈ mm_TB := mm_tb (mm_t3 (List.mem_of_getElem? (i := 169) rfl)) rfl
theorem wc_X6_all : Cond.code yX6_all cX6_all 2 (some .int) ∈ mm_TB := mm_tb (mm_t3 (List.mem_of_getElem? (i := 170) rfl)) rfl
theorem wl_X6_170 : Cond.methodLink RX6 170 yX0_sumOfOver ∈ mm_TB := mm_tb (mm_t3 (List.mem_of_getElem? (i := 171) rfl)) rfl
theorem wi_X0_sumOfOver : Cond.instanceMethod yX0_sumOfOver ∈ mm_TB := mm_tb (mm_t3 (List.mem_of_getElem? (i := 172) rfl)) rfl
theorem ws_X0_sumOfOver : Cond.selects RX0 yX0_sumOfOver yX0_sumOfOver ∈ mm_TB := mm_tb (mm_t3 (List.mem_of_getElem? (i := 173) rfl)) rfl
theorem wc_X0_sumOfOver : Cond.code yX0_sumOfOver cX0_sumOfOver 3 (some .int) ∈ mm_TB := mm_tb (mm_t3 (List.mem_of_getElem? (i := 174) rfl)) rfl
theorem wl_X6_174 : Cond.methodLink RX6 174 yX0_lastOver ∈ mm_TB := mm_tb (mm_t3 (List.mem_of_getElem? (i := 175) rfl)) rfl
theorem wi_X0_lastOver : Cond.instanceMethod yX0_lastOver ∈ mm_TB := mm_tb (mm_t3 (List.mem_of_getElem? (i := 176) rfl)) rfl
theorem ws_X0_lastOver : Cond.selects RX0 yX0_lastOver yX0_lastOver ∈ mm_TB := mm_tb (mm_t3 (List.mem_of_getElem? (i := 177) rfl)) rfl
theorem wc_X0_lastOver : Cond.code yX0_lastOver cX0_lastOver 3 (some .int) ∈ mm_TB := mm_tb (mm_t3 (List.mem_of_getElem? (i := 178) rfl)) rfl
theorem wl_X6_180 : Cond.methodLink RX6 180 yX0_sumOfFords ∈ mm_TB := mm_tb (mm_t3 (List.mem_of_getElem? (i := 179) rfl)) rfl
theorem wi_X0_sumOfFords : Cond.instanceMethod yX0_sumOfFords ∈ mm_TB := mm_tb (mm_t3 (List.mem_of_getElem? (i := 180) rfl)) rfl
theorem ws_X0_sumOfFords : Cond.selects RX0 yX0_sumOfFords yX0_sumOfFords ∈ mm_TB := mm_tb (mm_t3 (List.mem_of_getElem? (i := 181) rfl)) rfl
theorem wc_X0_sumOfFords : Cond.code yX0_sumOfFords cX0_sumOfFords 3 (some .int) ∈ mm_TB := mm_tb (mm_t3 (List.mem_of_getElem? (i := 182) rfl)) rfl
theorem wl_L_80 : Cond.methodLink RL 80 yX6_soonest ∈ mm_TB := mm_tb (mm_t3 (List.mem_of_getElem? (i := 183) rfl)) rfl
theorem wi_X6_soonest : Cond.instanceMethod yX6_soonest ∈ mm_TB := mm_tb (mm_t3 (List.mem_of_getElem? (i := 184) rfl)) rfl
theorem ws_X6_soonest : Cond.selects RX6 yX6_soonest yX6_soonest ∈ mm_TB := mm_tb (mm_t3 (List.mem_of_getElem? (i := 185) rfl)) rfl
theorem wc_X6_soonest : Cond.code yX6_soonest cX6_soonest 3 (some .int) ∈ mm_TB := mm_tb (mm_t3 (List.mem_of_getElem? (i := 186) rfl)) rfl
theorem wl_X6_183 : Cond.methodLink RX6 183 yX1_choose ∈ mm_TB := mm_tb (mm_t3 (List.mem_of_getElem? (i := 187) rfl)) rfl
theorem wi_X1_choose : Cond.instanceMethod yX1_choose ∈ mm_TB := mm_tb (mm_t3 (List.mem_of_getElem? (i := 188) rfl)) rfl
theorem ws_X1_choose : Cond.selects RX1 yX1_choose yX1_choose ∈ mm_TB := mm_tb (mm_t3 (List.mem_of_getElem? (i := 189) rfl)) rfl
theorem wc_X1_choose : Cond.code yX1_choose cX1_choose 4 (some .boolean) ∈ mm_TB := mm_tb (mm_t3 (List.mem_of_getElem? (i := 190) rfl)) rfl
theorem wl_X1_21 : Cond.methodLink RX1 21 yJ6_bitCount_0f7a4 ∈ mm_TB := mm_tb (mm_t3 (List.mem_of_getElem? (i := 191) rfl)) rfl
theorem wl_X6_187 : Cond.methodLink RX6 187 yX1_findCompanies ∈ mm_TB := mm_tb (mm_t3 (List.mem_of_getElem? (i := 192) rfl)) rfl
theorem wi_X1_findCompanies : Cond.instanceMethod yX1_findCompanies ∈ mm_TB := mm_tb (mm_t3 (List.mem_of_getElem? (i := 193) rfl)) rfl
theorem ws_X1_findCompanies : Cond.selects RX1 yX1_findCompanies yX1_findCompanies ∈ mm_TB := mm_tb (mm_t3 (List.mem_of_getElem? (i := 194) rfl)) rfl
theorem wc_X1_findCompanies : Cond.code yX1_findCompanies cX1_findCompanies 5 none ∈ mm_TB := mm_tb (mm_t3 (List.mem_of_getElem? (i := 195) rfl)) rfl
theorem wl_X1_31 : Cond.methodLink RX1 31 yX1_begin ∈ mm_TB := mm_tb (mm_t3 (List.mem_of_getElem? (i := 196) rfl)) rfl
theorem wi_X1_begin : Cond.instanceMethod yX1_begin ∈ mm_TB := mm_tb (mm_t3 (List.mem_of_getElem? (i := 198) rfl)) rfl
theorem wc_X1_begin : Cond.code yX1_begin cX1_begin 3 none ∈ mm_TB := mm_tb (mm_t3 (List.mem_of_getElem? (i := 199) rfl)) rfl
theorem wl_X1_72 : Cond.methodLink RX1 72 yX0_loadOnce ∈ mm_TB := mm_tb (mm_t3 (List.mem_of_getElem? (i := 200) rfl)) rfl
theorem wi_X0_loadOnce : Cond.instanceMethod yX0_loadOnce ∈ mm_TB := mm_tb (mm_t3 (List.mem_of_getElem? (i := 201) rfl)) rfl
theorem ws_X0_loadOnce : Cond.selects RX0 yX0_loadOnce yX0_loadOnce ∈ mm_TB := mm_tb (mm_t3 (List.mem_of_getElem? (i := 202) rfl)) rfl
theorem wc_X0_loadOnce : Cond.code yX0_loadOnce cX0_loadOnce 6 none ∈ mm_TB := mm_tb (mm_t3 (List.mem_of_getElem? (i := 203) rfl)) rfl
theorem wk_X1_76 : Cond.constant RX1 76 (1000000) ∈ mm_TB := mm_tb (mm_t3 (List.mem_of_getElem? (i := 204) rfl)) rfl
theorem wl_X1_46 : Cond.methodLink RX1 46 yX1_companyOf ∈ mm_TB := mm_tb (mm_t3 (List.mem_of_getElem? (i := 205) rfl)) rfl
theorem wi_X1_companyOf : Cond.instanceMethod yX1_companyOf ∈ mm_TB := mm_tb (mm_t3 (List.mem_of_getElem? (i := 207) rfl)) rfl
theorem wc_X1_companyOf : Cond.code yX1_companyOf cX1_companyOf 4 (some .int) ∈ mm_TB := mm_tb (mm_t3 (List.mem_of_getElem? (i := 208) rfl)) rfl
theorem wl_X1_52 : Cond.methodLink RX1 52 yX1_keepIfBetter ∈ mm_TB := mm_tb (mm_t3 (List.mem_of_getElem? (i := 209) rfl)) rfl
theorem wi_X1_keepIfBetter : Cond.instanceMethod yX1_keepIfBetter ∈ mm_TB := mm_tb (mm_t3 (List.mem_of_getElem? (i := 211) rfl)) rfl
theorem wc_X1_keepIfBetter : Cond.code yX1_keepIfBetter cX1_keepIfBetter 4 none ∈ mm_TB := mm_tb (mm_t3 (List.mem_of_getElem? (i := 212) rfl)) rfl
theorem wl_X1_77 : Cond.methodLink RX1 77 yX0_run ∈ mm_TB := mm_tb (mm_t3 (List.mem_of_getElem? (i := 213) rfl)) rfl
theorem wl_X1_81 : Cond.methodLink RX1 81 yX0_lastOver ∈ mm_TB := mm_tb (mm_t3 (List.mem_of_getElem? (i := 214) rfl)) rfl
theorem wl_X1_85 : Cond.methodLink RX1 85 yX0_sumOfOver ∈ mm_TB := mm_tb (mm_t3 (List.mem_of_getElem? (i := 215) rfl)) rfl
theorem wl_X1_88 : Cond.methodLink RX1 88 arraycopyName ∈ mm_TB := mm_tb (mm_t3 (List.mem_of_getElem? (i := 216) rfl)) rfl
theorem wl_X1_56 : Cond.methodLink RX1 56 yX1_makeNextCompanies ∈ mm_TB := mm_tb (mm_t3 (List.mem_of_getElem? (i := 217) rfl)) rfl
theorem wi_X1_makeNextCompanies : Cond.instanceMethod yX1_makeNextCompanies ∈ mm_TB := mm_tb (mm_t3 (List.mem_of_getElem? (i := 219) rfl)) rfl
theorem wc_X1_makeNextCompanies : Cond.code yX1_makeNextCompanies cX1_makeNextCompanies 3 (some .boolean) ∈ mm_TB := mm_tb (mm_t3 (List.mem_of_getElem? (i := 220) rfl)) rfl
theorem wl_X1_94 : Cond.methodLink RX1 94 yX1_mostAhead ∈ mm_TB := mm_tb (mm_t3 (List.mem_of_getElem? (i := 221) rfl)) rfl
theorem wi_X1_mostAhead : Cond.instanceMethod yX1_mostAhead ∈ mm_TB := mm_tb (mm_t3 (List.mem_of_getElem? (i := 223) rfl)) rfl
theorem wc_X1_mostAhead : Cond.code yX1_mostAhead cX1_mostAhead 4 (some .int) ∈ mm_TB := mm_tb (mm_t3 (List.mem_of_getElem? (i := 224) rfl)) rfl
theorem wl_X1_97 : Cond.methodLink RX1 97 Lib.Math.max.name ∈ mm_TB := mm_tb (mm_t3 (List.mem_of_getElem? (i := 225) rfl)) rfl
theorem wl_X6_191 : Cond.methodLink RX6 191 yX1_found ∈ mm_TB := mm_tb (mm_t3 (List.mem_of_getElem? (i := 226) rfl)) rfl
theorem wi_X1_found : Cond.instanceMethod yX1_found ∈ mm_TB := mm_tb (mm_t3 (List.mem_of_getElem? (i := 227) rfl)) rfl
theorem ws_X1_found : Cond.selects RX1 yX1_found yX1_found ∈ mm_TB := mm_tb (mm_t3 (List.mem_of_getElem? (i := 228) rfl)) rfl
theorem wc_X1_found : Cond.code yX1_found cX1_found 2 (some .int) ∈ mm_TB := mm_tb (mm_t3 (List.mem_of_getElem? (i := 229) rfl)) rfl
theorem wl_L_84 : Cond.methodLink RL 84 yX6_order ∈ mm_TB := mm_tb (mm_t3 (List.mem_of_getElem? (i := 230) rfl)) rfl
theorem wi_X6_order : Cond.instanceMethod yX6_order ∈ mm_TB := mm_tb (mm_t3 (List.mem_of_getElem? (i := 231) rfl)) rfl
theorem ws_X6_order : Cond.selects RX6 yX6_order yX6_order ∈ mm_TB := mm_tb (mm_t3 (List.mem_of_getElem? (i := 232) rfl)) rfl
theorem wc_X6_order : Cond.code yX6_order cX6_order 4 (some .int) ∈ mm_TB := mm_tb (mm_t3 (List.mem_of_getElem? (i := 233) rfl)) rfl
theorem wl_X6_197 : Cond.methodLink RX6 197 yX1_findRow ∈ mm_TB := mm_tb (mm_t3 (List.mem_of_getElem? (i := 234) rfl)) rfl
theorem wi_X1_findRow : Cond.instanceMethod yX1_findRow ∈ mm_TB := mm_tb (mm_t3 (List.mem_of_getElem? (i := 235) rfl)) rfl
theorem ws_X1_findRow : Cond.selects RX1 yX1_findRow yX1_findRow ∈ mm_TB := mm_tb (mm_t3 (List.mem_of_getElem? (i := 236) rfl)) rfl
theorem wc_X1_findRow : Cond.code yX1_findRow cX1_findRow 6 none ∈ mm_TB := mm_tb (mm_t3 (List.mem_of_getElem? (i := 237) rfl)) rfl
theorem wl_X1_63 : Cond.methodLink RX1 63 yX1_makeNextRow ∈ mm_TB := mm_tb (mm_t3 (List.mem_of_getElem? (i := 238) rfl)) rfl
theorem wi_X1_makeNextRow : Cond.instanceMethod yX1_makeNextRow ∈ mm_TB := mm_tb (mm_t4 (List.mem_of_getElem? (i := 0) rfl)) rfl
theorem wc_X1_makeNextRow : Cond.code yX1_makeNextRow cX1_makeNextRow 5 (some .boolean) ∈ mm_TB := mm_tb (mm_t4 (List.mem_of_getElem? (i := 1) rfl)) rfl
theorem wl_X1_103 : Cond.methodLink RX1 103 yX1_swap ∈ mm_TB := mm_tb (mm_t4 (List.mem_of_getElem? (i := 2) rfl)) rfl
theorem wi_X1_swap : Cond.instanceMethod yX1_swap ∈ mm_TB := mm_tb (mm_t4 (List.mem_of_getElem? (i := 4) rfl)) rfl
theorem wc_X1_swap : Cond.code yX1_swap cX1_swap 4 none ∈ mm_TB := mm_tb (mm_t4 (List.mem_of_getElem? (i := 5) rfl)) rfl
theorem wl_X6_201 : Cond.methodLink RX6 201 yX1_bestPerson ∈ mm_TB := mm_tb (mm_t4 (List.mem_of_getElem? (i := 6) rfl)) rfl
theorem wi_X1_bestPerson : Cond.instanceMethod yX1_bestPerson ∈ mm_TB := mm_tb (mm_t4 (List.mem_of_getElem? (i := 7) rfl)) rfl
theorem ws_X1_bestPerson : Cond.selects RX1 yX1_bestPerson yX1_bestPerson ∈ mm_TB := mm_tb (mm_t4 (List.mem_of_getElem? (i := 8) rfl)) rfl
theorem wc_X1_bestPerson : Cond.code yX1_bestPerson cX1_bestPerson 2 (some .int) ∈ mm_TB := mm_tb (mm_t4 (List.mem_of_getElem? (i := 9) rfl)) rfl
theorem wl_L_89 : Cond.methodLink RL 89 yX6_worth ∈ mm_TB := mm_tb (mm_t4 (List.mem_of_getElem? (i := 10) rfl)) rfl
theorem wi_X6_worth : Cond.instanceMethod yX6_worth ∈ mm_TB := mm_tb (mm_t4 (List.mem_of_getElem? (i := 11) rfl)) rfl
theorem ws_X6_worth : Cond.selects RX6 yX6_worth yX6_worth ∈ mm_TB := mm_tb (mm_t4 (List.mem_of_getElem? (i := 12) rfl)) rfl
theorem wc_X6_worth : Cond.code yX6_worth cX6_worth 4 (some .int) ∈ mm_TB := mm_tb (mm_t4 (List.mem_of_getElem? (i := 13) rfl)) rfl
theorem wk_X6_204 : Cond.constant RX6 204 (-100001) ∈ mm_TB := mm_tb (mm_t4 (List.mem_of_getElem? (i := 14) rfl)) rfl
theorem wl_X6_205 : Cond.methodLink RX6 205 yX6_sumIfHeld ∈ mm_TB := mm_tb (mm_t4 (List.mem_of_getElem? (i := 15) rfl)) rfl
theorem wi_X6_sumIfHeld : Cond.instanceMethod yX6_sumIfHeld ∈ mm_TB := mm_tb (mm_t4 (List.mem_of_getElem? (i := 17) rfl)) rfl
theorem wc_X6_sumIfHeld : Cond.code yX6_sumIfHeld cX6_sumIfHeld 3 (some .int) ∈ mm_TB := mm_tb (mm_t4 (List.mem_of_getElem? (i := 18) rfl)) rfl
theorem wl_L_93 : Cond.methodLink RL 93 yX6_waits ∈ mm_TB := mm_tb (mm_t4 (List.mem_of_getElem? (i := 19) rfl)) rfl
theorem wi_X6_waits : Cond.instanceMethod yX6_waits ∈ mm_TB := mm_tb (mm_t4 (List.mem_of_getElem? (i := 20) rfl)) rfl
theorem ws_X6_waits : Cond.selects RX6 yX6_waits yX6_waits ∈ mm_TB := mm_tb (mm_t4 (List.mem_of_getElem? (i := 21) rfl)) rfl
theorem wc_X6_waits : Cond.code yX6_waits cX6_waits 7 (some .int) ∈ mm_TB := mm_tb (mm_t4 (List.mem_of_getElem? (i := 22) rfl)) rfl
theorem wk_X6_209 : Cond.constant RX6 209 (1000000) ∈ mm_TB := mm_tb (mm_t4 (List.mem_of_getElem? (i := 23) rfl)) rfl
theorem wl_L_97 : Cond.methodLink RL 97 yX6_handed ∈ mm_TB := mm_tb (mm_t4 (List.mem_of_getElem? (i := 24) rfl)) rfl
theorem wi_X6_handed : Cond.instanceMethod yX6_handed ∈ mm_TB := mm_tb (mm_t4 (List.mem_of_getElem? (i := 25) rfl)) rfl
theorem ws_X6_handed : Cond.selects RX6 yX6_handed yX6_handed ∈ mm_TB := mm_tb (mm_t4 (List.mem_of_getElem? (i := 26) rfl)) rfl
theorem wc_X6_handed : Cond.code yX6_handed cX6_handed 3 (some .int) ∈ mm_TB := mm_tb (mm_t4 (List.mem_of_getElem? (i := 27) rfl)) rfl
theorem wl_X6_210 : Cond.methodLink RX6 210 yX6_cutUp ∈ mm_TB := mm_tb (mm_t4 (List.mem_of_getElem? (i := 28) rfl)) rfl
theorem wl_L_101 : Cond.methodLink RL 101 yX6_ford ∈ mm_TB := mm_tb (mm_t4 (List.mem_of_getElem? (i := 29) rfl)) rfl
theorem wi_X6_ford : Cond.instanceMethod yX6_ford ∈ mm_TB := mm_tb (mm_t4 (List.mem_of_getElem? (i := 30) rfl)) rfl
theorem ws_X6_ford : Cond.selects RX6 yX6_ford yX6_ford ∈ mm_TB := mm_tb (mm_t4 (List.mem_of_getElem? (i := 31) rfl)) rfl
theorem wc_X6_ford : Cond.code yX6_ford cX6_ford 3 (some .int) ∈ mm_TB := mm_tb (mm_t4 (List.mem_of_getElem? (i := 32) rfl)) rfl
theorem wl_L_105 : Cond.methodLink RL 105 yX6_shared ∈ mm_TB := mm_tb (mm_t4 (List.mem_of_getElem? (i := 33) rfl)) rfl
theorem wi_X6_shared : Cond.instanceMethod yX6_shared ∈ mm_TB := mm_tb (mm_t4 (List.mem_of_getElem? (i := 34) rfl)) rfl
theorem ws_X6_shared : Cond.selects RX6 yX6_shared yX6_shared ∈ mm_TB := mm_tb (mm_t4 (List.mem_of_getElem? (i := 35) rfl)) rfl
theorem wc_X6_shared : Cond.code yX6_shared cX6_shared 7 (some .int) ∈ mm_TB := mm_tb (mm_t4 (List.mem_of_getElem? (i := 36) rfl)) rfl
theorem wl_X6_213 : Cond.methodLink RX6 213 yJ6_bitCount_0f7a4 ∈ mm_TB := mm_tb (mm_t4 (List.mem_of_getElem? (i := 37) rfl)) rfl
theorem wl_L_109 : Cond.methodLink RL 109 yX6_late ∈ mm_TB := mm_tb (mm_t4 (List.mem_of_getElem? (i := 38) rfl)) rfl
theorem wi_X6_late : Cond.instanceMethod yX6_late ∈ mm_TB := mm_tb (mm_t4 (List.mem_of_getElem? (i := 39) rfl)) rfl
theorem ws_X6_late : Cond.selects RX6 yX6_late yX6_late ∈ mm_TB := mm_tb (mm_t4 (List.mem_of_getElem? (i := 40) rfl)) rfl
theorem wc_X6_late : Cond.code yX6_late cX6_late 9 (some .int) ∈ mm_TB := mm_tb (mm_t4 (List.mem_of_getElem? (i := 41) rfl)) rfl
theorem wl_L_114 : Cond.methodLink RL 114 yX6_other ∈ mm_TB := mm_tb (mm_t4 (List.mem_of_getElem? (i := 42) rfl)) rfl
theorem wi_X6_other : Cond.instanceMethod yX6_other ∈ mm_TB := mm_tb (mm_t4 (List.mem_of_getElem? (i := 43) rfl)) rfl
theorem ws_X6_other : Cond.selects RX6 yX6_other yX6_other ∈ mm_TB := mm_tb (mm_t4 (List.mem_of_getElem? (i := 44) rfl)) rfl
theorem wc_X6_other : Cond.code yX6_other cX6_other 3 (some .int) ∈ mm_TB := mm_tb (mm_t4 (List.mem_of_getElem? (i := 45) rfl)) rfl
theorem wl_L_118 : Cond.methodLink RL 118 yX6_image ∈ mm_TB := mm_tb (mm_t4 (List.mem_of_getElem? (i := 46) rfl)) rfl
theorem wi_X6_image : Cond.instanceMethod yX6_image ∈ mm_TB := mm_tb (mm_t4 (List.mem_of_getElem? (i := 47) rfl)) rfl
theorem ws_X6_image : Cond.selects RX6 yX6_image yX6_image ∈ mm_TB := mm_tb (mm_t4 (List.mem_of_getElem? (i := 48) rfl)) rfl
theorem wc_X6_image : Cond.code yX6_image cX6_image 1 (some .int) ∈ mm_TB := mm_tb (mm_t4 (List.mem_of_getElem? (i := 49) rfl)) rfl
theorem wl_X6_227 : Cond.methodLink RX6 227 yX3_become ∈ mm_TB := mm_tb (mm_t4 (List.mem_of_getElem? (i := 50) rfl)) rfl
theorem wi_X3_become : Cond.instanceMethod yX3_become ∈ mm_TB := mm_tb (mm_t4 (List.mem_of_getElem? (i := 51) rfl)) rfl
theorem ws_X3_become : Cond.selects RX3 yX3_become yX3_become ∈ mm_TB := mm_tb (mm_t4 (List.mem_of_getElem? (i := 52) rfl)) rfl
theorem wc_X3_become : Cond.code yX3_become cX3_become 3 none ∈ mm_TB := mm_tb (mm_t4 (List.mem_of_getElem? (i := 53) rfl)) rfl
theorem wl_L_122 : Cond.methodLink RL 122 yX6_restore ∈ mm_TB := mm_tb (mm_t4 (List.mem_of_getElem? (i := 54) rfl)) rfl
theorem wi_X6_restore : Cond.instanceMethod yX6_restore ∈ mm_TB := mm_tb (mm_t4 (List.mem_of_getElem? (i := 55) rfl)) rfl
theorem ws_X6_restore : Cond.selects RX6 yX6_restore yX6_restore ∈ mm_TB := mm_tb (mm_t4 (List.mem_of_getElem? (i := 56) rfl)) rfl
theorem wc_X6_restore : Cond.code yX6_restore cX6_restore 1 (some .int) ∈ mm_TB := mm_tb (mm_t4 (List.mem_of_getElem? (i := 57) rfl)) rfl
theorem wl_L_126 : Cond.methodLink RL 126 yX6_crowd ∈ mm_TB := mm_tb (mm_t4 (List.mem_of_getElem? (i := 58) rfl)) rfl
theorem wi_X6_crowd : Cond.instanceMethod yX6_crowd ∈ mm_TB := mm_tb (mm_t4 (List.mem_of_getElem? (i := 59) rfl)) rfl
theorem ws_X6_crowd : Cond.selects RX6 yX6_crowd yX6_crowd ∈ mm_TB := mm_tb (mm_t4 (List.mem_of_getElem? (i := 60) rfl)) rfl
theorem wc_X6_crowd : Cond.code yX6_crowd cX6_crowd 8 (some .int) ∈ mm_TB := mm_tb (mm_t4 (List.mem_of_getElem? (i := 61) rfl)) rfl
theorem wl_X6_234 : Cond.methodLink RX6 234 yX6_refusedRow ∈ mm_TB := mm_tb (mm_t4 (List.mem_of_getElem? (i := 62) rfl)) rfl
theorem wi_X6_refusedRow : Cond.instanceMethod yX6_refusedRow ∈ mm_TB := mm_tb (mm_t4 (List.mem_of_getElem? (i := 64) rfl)) rfl
theorem wc_X6_refusedRow : Cond.code yX6_refusedRow cX6_refusedRow 6 (some .int) ∈ mm_TB := mm_tb (mm_t4 (List.mem_of_getElem? (i := 65) rfl)) rfl
theorem wl_L_130 : Cond.methodLink RL 130 yX6_sheet ∈ mm_TB := mm_tb (mm_t4 (List.mem_of_getElem? (i := 66) rfl)) rfl
theorem wi_X6_sheet : Cond.instanceMethod yX6_sheet ∈ mm_TB := mm_tb (mm_t4 (List.mem_of_getElem? (i := 67) rfl)) rfl
theorem ws_X6_sheet : Cond.selects RX6 yX6_sheet yX6_sheet ∈ mm_TB := mm_tb (mm_t4 (List.mem_of_getElem? (i := 68) rfl)) rfl
theorem wc_X6_sheet : Cond.code yX6_sheet cX6_sheet 4 (some .int) ∈ mm_TB := mm_tb (mm_t4 (List.mem_of_getElem? (i := 69) rfl)) rfl
theorem wl_X6_241 : Cond.methodLink RX6 241 yX2_begin ∈ mm_TB := mm_tb (mm_t4 (List.mem_of_getElem? (i := 70) rfl)) rfl
theorem wi_X2_begin : Cond.instanceMethod yX2_begin ∈ mm_TB := mm_tb (mm_t4 (List.mem_of_getElem? (i := 71) rfl)) rfl
theorem ws_X2_begin : Cond.selects RX2 yX2_begin yX2_begin ∈ mm_TB := mm_tb (mm_t4 (List.mem_of_getElem? (i := 72) rfl)) rfl
theorem wc_X2_begin : Cond.code yX2_begin cX2_begin 4 none ∈ mm_TB := mm_tb (mm_t4 (List.mem_of_getElem? (i := 73) rfl)) rfl
theorem wl_L_134 : Cond.methodLink RL 134 yX6_drop ∈ mm_TB := mm_tb (mm_t4 (List.mem_of_getElem? (i := 74) rfl)) rfl
theorem wi_X6_drop : Cond.instanceMethod yX6_drop ∈ mm_TB := mm_tb (mm_t4 (List.mem_of_getElem? (i := 75) rfl)) rfl
theorem ws_X6_drop : Cond.selects RX6 yX6_drop yX6_drop ∈ mm_TB := mm_tb (mm_t4 (List.mem_of_getElem? (i := 76) rfl)) rfl
theorem wc_X6_drop : Cond.code yX6_drop cX6_drop 3 (some .int) ∈ mm_TB := mm_tb (mm_t4 (List.mem_of_getElem? (i := 77) rfl)) rfl
theorem wl_L_138 : Cond.methodLink RL 138 yX6_item ∈ mm_TB := mm_tb (mm_t4 (List.mem_of_getElem? (i := 78) rfl)) rfl
theorem wi_X6_item : Cond.instanceMethod yX6_item ∈ mm_TB := mm_tb (mm_t4 (List.mem_of_getElem? (i := 79) rfl)) rfl
theorem ws_X6_item : Cond.selects RX6 yX6_item yX6_item ∈ mm_TB := mm_tb (mm_t4 (List.mem_of_getElem? (i := 80) rfl)) rfl
theorem wc_X6_item : Cond.code yX6_item cX6_item 6 (some .int) ∈ mm_TB := mm_tb (mm_t4 (List.mem_of_getElem? (i := 81) rfl)) rfl
theorem wl_X6_249 : Cond.methodLink RX6 249 yX2_put ∈ mm_TB := mm_tb (mm_t4 (List.mem_of_getElem? (i := 82) rfl)) rfl
theorem wi_X2_put : Cond.instanceMethod yX2_put ∈ mm_TB := mm_tb (mm_t4 (List.mem_of_getElem? (i := 83) rfl)) rfl
theorem ws_X2_put : Cond.selects RX2 yX2_put yX2_put ∈ mm_TB := mm_tb (mm_t4 (List.mem_of_getElem? (i := 84) rfl)) rfl
theorem wc_X2_put : Cond.code yX2_put cX2_put 3 none ∈ mm_TB := mm_tb (mm_t4 (List.mem_of_getElem? (i := 85) rfl)) rfl
theorem wl_L_142 : Cond.methodLink RL 142 yX6_film ∈ mm_TB := mm_tb (mm_t4 (List.mem_of_getElem? (i := 87) rfl)) rfl
theorem wi_X6_film : Cond.instanceMethod yX6_film ∈ mm_TB := mm_tb (mm_t4 (List.mem_of_getElem? (i := 88) rfl)) rfl
theorem ws_X6_film : Cond.selects RX6 yX6_film yX6_film ∈ mm_TB := mm_tb (mm_t4 (List.mem_of_getElem? (i := 89) rfl)) rfl
theorem wc_X6_film : Cond.code yX6_film cX6_film 6 (some .int) ∈ mm_TB := mm_tb (mm_t4 (List.mem_of_getElem? (i := 90) rfl)) rfl
theorem wq_L_10 : Cond.classLink RL 10 RX7 ∈ mm_TB := mm_tb (mm_t4 (List.mem_of_getElem? (i := 91) rfl)) rfl
theorem wz_X7 : Cond.instantiable RX7 43 ∈ mm_TB := mm_tb (mm_t4 (List.mem_of_getElem? (i := 92) rfl)) rfl
theorem wl_L_12 : Cond.methodLink RL 12 yX7_init ∈ mm_TB := mm_tb (mm_t4 (List.mem_of_getElem? (i := 93) rfl)) rfl
theorem wi_X7_init : Cond.instanceMethod yX7_init ∈ mm_TB := mm_tb (mm_t4 (List.mem_of_getElem? (i := 94) rfl)) rfl
theorem wc_X7_init : Cond.code yX7_init cX7_init 2 none ∈ mm_TB := mm_tb (mm_t4 (List.mem_of_getElem? (i := 95) rfl)) rfl
theorem wl_X7_1 : Cond.methodLink RX7 1 objectInit ∈ mm_TB := mm_tb (mm_t4 (List.mem_of_getElem? (i := 96) rfl)) rfl
theorem wf_X7_7 : Cond.fieldLink RX7 7 "PlankBridgeModel" "pe" "[I" ∈ mm_TB := mm_tb (mm_t4 (List.mem_of_getElem? (i := 97) rfl)) rfl
theorem wf_X7_98 : Cond.fieldLink RX7 98 "PlankBridgeModel" "many" "I" ∈ mm_TB := mm_tb (mm_t4 (List.mem_of_getElem? (i := 98) rfl)) rfl
theorem wf_X7_13 : Cond.fieldLink RX7 13 "PlankBridgeModel" "laws" "[I" ∈ mm_TB := mm_tb (mm_t4 (List.mem_of_getElem? (i := 99) rfl)) rfl
theorem wf_X7_16 : Cond.fieldLink RX7 16 "PlankBridgeModel" "planks0" "I" ∈ mm_TB := mm_tb (mm_t4 (List.mem_of_getElem? (i := 100) rfl)) rfl
theorem wf_X7_20 : Cond.fieldLink RX7 20 "PlankBridgeModel" "tape" "[I" ∈ mm_TB := mm_tb (mm_t4 (List.mem_of_getElem? (i := 101) rfl)) rfl
theorem wf_X7_155 : Cond.fieldLink RX7 155 "PlankBridgeModel" "taped" "I" ∈ mm_TB := mm_tb (mm_t4 (List.mem_of_getElem? (i := 102) rfl)) rfl
theorem wf_X7_158 : Cond.fieldLink RX7 158 "PlankBridgeModel" "place" "I" ∈ mm_TB := mm_tb (mm_t4 (List.mem_of_getElem? (i := 103) rfl)) rfl
theorem wf_X7_169 : Cond.fieldLink RX7 169 "PlankBridgeModel" "reads" "I" ∈ mm_TB := mm_tb (mm_t4 (List.mem_of_getElem? (i := 104) rfl)) rfl
theorem wf_X7_23 : Cond.fieldLink RX7 23 "PlankBridgeModel" "read" "[I" ∈ mm_TB := mm_tb (mm_t4 (List.mem_of_getElem? (i := 105) rfl)) rfl
theorem wf_X7_26 : Cond.fieldLink RX7 26 "PlankBridgeModel" "state" "[I" ∈ mm_TB := mm_tb (mm_t4 (List.mem_of_getElem? (i := 106) rfl)) rfl
theorem wf_X7_29 : Cond.fieldLink RX7 29 "PlankBridgeModel" "from" "[I" ∈ mm_TB := mm_tb (mm_t4 (List.mem_of_getElem? (i := 107) rfl)) rfl
theorem wf_X7_32 : Cond.fieldLink RX7 32 "PlankBridgeModel" "gone" "[I" ∈ mm_TB := mm_tb (mm_t4 (List.mem_of_getElem? (i := 108) rfl)) rfl
theorem wf_X7_35 : Cond.fieldLink RX7 35 "PlankBridgeModel" "atEnd" "[I" ∈ mm_TB := mm_tb (mm_t4 (List.mem_of_getElem? (i := 109) rfl)) rfl
theorem wf_X7_38 : Cond.fieldLink RX7 38 "PlankBridgeModel" "made" "[I" ∈ mm_TB := mm_tb (mm_t4 (List.mem_of_getElem? (i := 110) rfl)) rfl
theorem wf_X7_41 : Cond.fieldLink RX7 41 "PlankBridgeModel" "since" "[I" ∈ mm_TB := mm_tb (mm_t4 (List.mem_of_getElem? (i := 111) rfl)) rfl
theorem wf_X7_44 : Cond.fieldLink RX7 44 "PlankBridgeModel" "pace" "[I" ∈ mm_TB := mm_tb (mm_t4 (List.mem_of_getElem? (i := 112) rfl)) rfl
theorem wf_X7_47 : Cond.fieldLink RX7 47 "PlankBridgeModel" "wet" "[I" ∈ mm_TB := mm_tb (mm_t4 (List.mem_of_getElem? (i := 113) rfl)) rfl
theorem wf_X7_50 : Cond.fieldLink RX7 50 "PlankBridgeModel" "waited" "[I" ∈ mm_TB := mm_tb (mm_t4 (List.mem_of_getElem? (i := 114) rfl)) rfl
theorem wf_X7_53 : Cond.fieldLink RX7 53 "PlankBridgeModel" "bare" "[I" ∈ mm_TB := mm_tb (mm_t4 (List.mem_of_getElem? (i := 115) rfl)) rfl
theorem wf_X7_56 : Cond.fieldLink RX7 56 "PlankBridgeModel" "over" "[I" ∈ mm_TB := mm_tb (mm_t4 (List.mem_of_getElem? (i := 116) rfl)) rfl
theorem wf_X7_59 : Cond.fieldLink RX7 59 "PlankBridgeModel" "holds" "[I" ∈ mm_TB := mm_tb (mm_t4 (List.mem_of_getElem? (i := 117) rfl)) rfl
theorem wf_X7_62 : Cond.fieldLink RX7 62 "PlankBridgeModel" "off" "[I" ∈ mm_TB := mm_tb (mm_t4 (List.mem_of_getElem? (i := 118) rfl)) rfl
theorem wf_X7_65 : Cond.fieldLink RX7 65 "PlankBridgeModel" "lastCount" "[I" ∈ mm_TB := mm_tb (mm_t4 (List.mem_of_getElem? (i := 119) rfl)) rfl
theorem wf_X7_191 : Cond.fieldLink RX7 191 "PlankBridgeModel" "planks" "I" ∈ mm_TB := mm_tb (mm_t4 (List.mem_of_getElem? (i := 120) rfl)) rfl
theorem wf_X7_194 : Cond.fieldLink RX7 194 "PlankBridgeModel" "ropes" "I" ∈ mm_TB := mm_tb (mm_t4 (List.mem_of_getElem? (i := 121) rfl)) rfl
theorem wf_X7_197 : Cond.fieldLink RX7 197 "PlankBridgeModel" "counted" "I" ∈ mm_TB := mm_tb (mm_t4 (List.mem_of_getElem? (i := 122) rfl)) rfl
theorem wf_X7_200 : Cond.fieldLink RX7 200 "PlankBridgeModel" "dayCount" "I" ∈ mm_TB := mm_tb (mm_t4 (List.mem_of_getElem? (i := 123) rfl)) rfl
theorem wf_X7_68 : Cond.fieldLink RX7 68 "PlankBridgeModel" "roped" "I" ∈ mm_TB := mm_tb (mm_t4 (List.mem_of_getElem? (i := 124) rfl)) rfl
theorem wf_X7_71 : Cond.fieldLink RX7 71 "PlankBridgeModel" "some" "[I" ∈ mm_TB := mm_tb (mm_t4 (List.mem_of_getElem? (i := 125) rfl)) rfl
theorem wf_X7_259 : Cond.fieldLink RX7 259 "PlankBridgeModel" "someMany" "I" ∈ mm_TB := mm_tb (mm_t4 (List.mem_of_getElem? (i := 126) rfl)) rfl
theorem wf_X7_74 : Cond.fieldLink RX7 74 "PlankBridgeModel" "row" "[I" ∈ mm_TB := mm_tb (mm_t4 (List.mem_of_getElem? (i := 127) rfl)) rfl
theorem wf_X7_77 : Cond.fieldLink RX7 77 "PlankBridgeModel" "best" "[I" ∈ mm_TB := mm_tb (mm_t4 (List.mem_of_getElem? (i := 128) rfl)) rfl
theorem wf_X7_80 : Cond.fieldLink RX7 80 "PlankBridgeModel" "end" "[I" ∈ mm_TB := mm_tb (mm_t4 (List.mem_of_getElem? (i := 129) rfl)) rfl
theorem wf_X7_265 : Cond.fieldLink RX7 265 "PlankBridgeModel" "bestLast" "I" ∈ mm_TB := mm_tb (mm_t4 (List.mem_of_getElem? (i := 130) rfl)) rfl
theorem wf_X7_268 : Cond.fieldLink RX7 268 "PlankBridgeModel" "bestSum" "I" ∈ mm_TB := mm_tb (mm_t4 (List.mem_of_getElem? (i := 131) rfl)) rfl
theorem wf_X7_316 : Cond.fieldLink RX7 316 "PlankBridgeModel" "isKept" "Z" ∈ mm_TB := mm_tb (mm_t4 (List.mem_of_getElem? (i := 132) rfl)) rfl
theorem wf_X7_83 : Cond.fieldLink RX7 83 "PlankBridgeModel" "kept" "[I" ∈ mm_TB := mm_tb (mm_t4 (List.mem_of_getElem? (i := 133) rfl)) rfl
theorem wf_X7_86 : Cond.fieldLink RX7 86 "PlankBridgeModel" "keptLaws" "[I" ∈ mm_TB := mm_tb (mm_t4 (List.mem_of_getElem? (i := 134) rfl)) rfl
theorem wf_X7_310 : Cond.fieldLink RX7 310 "PlankBridgeModel" "keptMany" "I" ∈ mm_TB := mm_tb (mm_t4 (List.mem_of_getElem? (i := 135) rfl)) rfl
theorem wf_X7_313 : Cond.fieldLink RX7 313 "PlankBridgeModel" "keptPlanks" "I" ∈ mm_TB := mm_tb (mm_t4 (List.mem_of_getElem? (i := 136) rfl)) rfl
theorem wf_X7_89 : Cond.fieldLink RX7 89 "PlankBridgeModel" "lanes" "[I" ∈ mm_TB := mm_tb (mm_t4 (List.mem_of_getElem? (i := 137) rfl)) rfl
theorem wf_X7_92 : Cond.fieldLink RX7 92 "PlankBridgeModel" "rowSizes" "[I" ∈ mm_TB := mm_tb (mm_t4 (List.mem_of_getElem? (i := 138) rfl)) rfl
theorem wf_X7_95 : Cond.fieldLink RX7 95 "PlankBridgeModel" "items" "[I" ∈ mm_TB := mm_tb (mm_t4 (List.mem_of_getElem? (i := 139) rfl)) rfl
theorem wl_L_17 : Cond.methodLink RL 17 yX7_planks ∈ mm_TB := mm_tb (mm_t4 (List.mem_of_getElem? (i := 227) rfl)) rfl
theorem wi_X7_planks : Cond.instanceMethod yX7_planks ∈ mm_TB := mm_tb (mm_t4 (List.mem_of_getElem? (i := 228) rfl)) rfl
theorem ws_X7_planks : Cond.selects RX7 yX7_planks yX7_planks ∈ mm_TB := mm_tb (mm_t4 (List.mem_of_getElem? (i := 229) rfl)) rfl
theorem wc_X7_planks : Cond.code yX7_planks cX7_planks 3 (some .int) ∈ mm_TB := mm_tb (mm_t4 (List.mem_of_getElem? (i := 230) rfl)) rfl
theorem wk_X7_105 : Cond.constantLong RX7 105 (400) ∈ mm_TB := mm_tb (mm_t4 (List.mem_of_getElem? (i := 231) rfl)) rfl
theorem wl_X7_101 : Cond.methodLink RX7 101 yX7_in ∈ mm_TB := mm_tb (mm_t4 (List.mem_of_getElem? (i := 232) rfl)) rfl
theorem wt_X7_in : Cond.static yX7_in ∈ mm_TB := mm_tb (mm_t4 (List.mem_of_getElem? (i := 233) rfl)) rfl
theorem wc_X7_in : Cond.code yX7_in cX7_in 6 (some .boolean) ∈ mm_TB := mm_tb (mm_t4 (List.mem_of_getElem? (i := 234) rfl)) rfl
theorem wl_L_22 : Cond.methodLink RL 22 yX7_rule ∈ mm_TB := mm_tb (mm_t4 (List.mem_of_getElem? (i := 235) rfl)) rfl
theorem wi_X7_rule : Cond.instanceMethod yX7_rule ∈ mm_TB := mm_tb (mm_t4 (List.mem_of_getElem? (i := 236) rfl)) rfl
theorem ws_X7_rule : Cond.selects RX7 yX7_rule yX7_rule ∈ mm_TB := mm_tb (mm_t4 (List.mem_of_getElem? (i := 237) rfl)) rfl
theorem wc_X7_rule : Cond.code yX7_rule cX7_rule 4 (some .int) ∈ mm_TB := mm_tb (mm_t4 (List.mem_of_getElem? (i := 238) rfl)) rfl
theorem wk_X7_107 : Cond.constantLong RX7 107 (5) ∈ mm_TB := mm_tb (mm_t4 (List.mem_of_getElem? (i := 239) rfl)) rfl
theorem wl_X7_109 : Cond.methodLink RX7 109 yX7_leastOf ∈ mm_TB := mm_tb (mm_t5 (List.mem_of_getElem? (i := 0) rfl)) rfl
theorem wt_X7_leastOf : Cond.static yX7_leastOf ∈ mm_TB := mm_tb (mm_t5 (List.mem_of_getElem? (i := 1) rfl)) rfl
theorem wc_X7_leastOf : Cond.code yX7_leastOf cX7_leastOf 1 (some .int) ∈ mm_TB := mm_tb (mm_t5 (List.mem_of_getElem? (i := 2) rfl)) rfl
theorem wl_X7_113 : Cond.methodLink RX7 113 yX7_mostOf ∈ mm_TB := mm_tb (mm_t5 (List.mem_of_getElem? (i := 3) rfl)) rfl
theorem wt_X7_mostOf : Cond.static yX7_mostOf ∈ mm_TB := mm_tb (mm_t5 (List.mem_of_getElem? (i := 4) rfl)) rfl
theorem wc_X7_mostOf : Cond.code yX7_mostOf cX7_mostOf 1 (some .int) ∈ mm_TB := mm_tb (mm_t5 (List.mem_of_getElem? (i := 5) rfl)) rfl
theorem wl_L_27 : Cond.methodLink RL 27 yX7_person ∈ mm_TB := mm_tb (mm_t5 (List.mem_of_getElem? (i := 6) rfl)) rfl
theorem wi_X7_person : Cond.instanceMethod yX7_person ∈ mm_TB := mm_tb (mm_t5 (List.mem_of_getElem? (i := 7) rfl)) rfl
theorem ws_X7_person : Cond.selects RX7 yX7_person yX7_person ∈ mm_TB := mm_tb (mm_t5 (List.mem_of_getElem? (i := 8) rfl)) rfl
theorem wc_X7_person : Cond.code yX7_person cX7_person 6 (some .int) ∈ mm_TB := mm_tb (mm_t5 (List.mem_of_getElem? (i := 9) rfl)) rfl
theorem wl_X7_124 : Cond.methodLink RX7 124 yX7_may ∈ mm_TB := mm_tb (mm_t5 (List.mem_of_getElem? (i := 10) rfl)) rfl
theorem wt_X7_may : Cond.static yX7_may ∈ mm_TB := mm_tb (mm_t5 (List.mem_of_getElem? (i := 11) rfl)) rfl
theorem wc_X7_may : Cond.code yX7_may cX7_may 10 (some .boolean) ∈ mm_TB := mm_tb (mm_t5 (List.mem_of_getElem? (i := 12) rfl)) rfl
theorem wk_X7_116 : Cond.constantLong RX7 116 (499) ∈ mm_TB := mm_tb (mm_t5 (List.mem_of_getElem? (i := 13) rfl)) rfl
theorem wk_X7_118 : Cond.constantLong RX7 118 (3) ∈ mm_TB := mm_tb (mm_t5 (List.mem_of_getElem? (i := 14) rfl)) rfl
theorem wk_X7_120 : Cond.constantLong RX7 120 (20) ∈ mm_TB := mm_tb (mm_t5 (List.mem_of_getElem? (i := 15) rfl)) rfl
theorem wk_X7_122 : Cond.constantLong RX7 122 (6) ∈ mm_TB := mm_tb (mm_t5 (List.mem_of_getElem? (i := 16) rfl)) rfl
theorem wl_X7_128 : Cond.methodLink RX7 128 yX7_add ∈ mm_TB := mm_tb (mm_t5 (List.mem_of_getElem? (i := 17) rfl)) rfl
theorem wi_X7_add : Cond.instanceMethod yX7_add ∈ mm_TB := mm_tb (mm_t5 (List.mem_of_getElem? (i := 19) rfl)) rfl
theorem wc_X7_add : Cond.code yX7_add cX7_add 7 none ∈ mm_TB := mm_tb (mm_t5 (List.mem_of_getElem? (i := 20) rfl)) rfl
theorem wl_L_31 : Cond.methodLink RL 31 yX7_told ∈ mm_TB := mm_tb (mm_t5 (List.mem_of_getElem? (i := 21) rfl)) rfl
theorem wi_X7_told : Cond.instanceMethod yX7_told ∈ mm_TB := mm_tb (mm_t5 (List.mem_of_getElem? (i := 22) rfl)) rfl
theorem ws_X7_told : Cond.selects RX7 yX7_told yX7_told ∈ mm_TB := mm_tb (mm_t5 (List.mem_of_getElem? (i := 23) rfl)) rfl
theorem wc_X7_told : Cond.code yX7_told cX7_told 3 (some .int) ∈ mm_TB := mm_tb (mm_t5 (List.mem_of_getElem? (i := 24) rfl)) rfl
theorem wl_X7_136 : Cond.methodLink RX7 136 yX7_isPerson ∈ mm_TB := mm_tb (mm_t5 (List.mem_of_getElem? (i := 25) rfl)) rfl
theorem wi_X7_isPerson : Cond.instanceMethod yX7_isPerson ∈ mm_TB := mm_tb (mm_t5 (List.mem_of_getElem? (i := 27) rfl)) rfl
theorem wc_X7_isPerson : Cond.code yX7_isPerson cX7_isPerson 2 (some .boolean) ∈ mm_TB := mm_tb (mm_t5 (List.mem_of_getElem? (i := 28) rfl)) rfl
theorem wl_X7_140 : Cond.methodLink RX7 140 yX7_paceOf ∈ mm_TB := mm_tb (mm_t5 (List.mem_of_getElem? (i := 29) rfl)) rfl
theorem wi_X7_paceOf : Cond.instanceMethod yX7_paceOf ∈ mm_TB := mm_tb (mm_t5 (List.mem_of_getElem? (i := 31) rfl)) rfl
theorem wc_X7_paceOf : Cond.code yX7_paceOf cX7_paceOf 4 (some .int) ∈ mm_TB := mm_tb (mm_t5 (List.mem_of_getElem? (i := 32) rfl)) rfl
theorem wl_X7_132 : Cond.methodLink RX7 132 yX7_most ∈ mm_TB := mm_tb (mm_t5 (List.mem_of_getElem? (i := 33) rfl)) rfl
theorem wt_X7_most : Cond.static yX7_most ∈ mm_TB := mm_tb (mm_t5 (List.mem_of_getElem? (i := 34) rfl)) rfl
theorem wc_X7_most : Cond.code yX7_most cX7_most 2 (some .int) ∈ mm_TB := mm_tb (mm_t5 (List.mem_of_getElem? (i := 35) rfl)) rfl
theorem wl_L_35 : Cond.methodLink RL 35 yX7_stay ∈ mm_TB := mm_tb (mm_t5 (List.mem_of_getElem? (i := 36) rfl)) rfl
theorem wi_X7_stay : Cond.instanceMethod yX7_stay ∈ mm_TB := mm_tb (mm_t5 (List.mem_of_getElem? (i := 37) rfl)) rfl
theorem ws_X7_stay : Cond.selects RX7 yX7_stay yX7_stay ∈ mm_TB := mm_tb (mm_t5 (List.mem_of_getElem? (i := 38) rfl)) rfl
theorem wc_X7_stay : Cond.code yX7_stay cX7_stay 4 (some .int) ∈ mm_TB := mm_tb (mm_t5 (List.mem_of_getElem? (i := 39) rfl)) rfl
theorem wk_X7_143 : Cond.constantLong RX7 143 (60) ∈ mm_TB := mm_tb (mm_t5 (List.mem_of_getElem? (i := 40) rfl)) rfl
theorem wl_L_39 : Cond.methodLink RL 39 yX7_hold ∈ mm_TB := mm_tb (mm_t5 (List.mem_of_getElem? (i := 41) rfl)) rfl
theorem wi_X7_hold : Cond.instanceMethod yX7_hold ∈ mm_TB := mm_tb (mm_t5 (List.mem_of_getElem? (i := 42) rfl)) rfl
theorem ws_X7_hold : Cond.selects RX7 yX7_hold yX7_hold ∈ mm_TB := mm_tb (mm_t5 (List.mem_of_getElem? (i := 43) rfl)) rfl
theorem wc_X7_hold : Cond.code yX7_hold cX7_hold 4 (some .int) ∈ mm_TB := mm_tb (mm_t5 (List.mem_of_getElem? (i := 44) rfl)) rfl
theorem wk_X7_145 : Cond.constantLong RX7 145 (-1) ∈ mm_TB := mm_tb (mm_t5 (List.mem_of_getElem? (i := 45) rfl)) rfl
theorem wl_L_44 : Cond.methodLink RL 44 yX7_clear ∈ mm_TB := mm_tb (mm_t5 (List.mem_of_getElem? (i := 46) rfl)) rfl
theorem wi_X7_clear : Cond.instanceMethod yX7_clear ∈ mm_TB := mm_tb (mm_t5 (List.mem_of_getElem? (i := 47) rfl)) rfl
theorem ws_X7_clear : Cond.selects RX7 yX7_clear yX7_clear ∈ mm_TB := mm_tb (mm_t5 (List.mem_of_getElem? (i := 48) rfl)) rfl
theorem wc_X7_clear : Cond.code yX7_clear cX7_clear 2 (some .int) ∈ mm_TB := mm_tb (mm_t5 (List.mem_of_getElem? (i := 49) rfl)) rfl
theorem wl_L_63 : Cond.methodLink RL 63 yX7_count ∈ mm_TB := mm_tb (mm_t5 (List.mem_of_getElem? (i := 50) rfl)) rfl
theorem wi_X7_count : Cond.instanceMethod yX7_count ∈ mm_TB := mm_tb (mm_t5 (List.mem_of_getElem? (i := 51) rfl)) rfl
theorem ws_X7_count : Cond.selects RX7 yX7_count yX7_count ∈ mm_TB := mm_tb (mm_t5 (List.mem_of_getElem? (i := 52) rfl)) rfl
theorem wc_X7_count : Cond.code yX7_count cX7_count 5 (some .int) ∈ mm_TB := mm_tb (mm_t5 (List.mem_of_getElem? (i := 53) rfl)) rfl
theorem wl_L_51 : Cond.methodLink RL 51 yX7_type ∈ mm_TB := mm_tb (mm_t5 (List.mem_of_getElem? (i := 54) rfl)) rfl
theorem wi_X7_type : Cond.instanceMethod yX7_type ∈ mm_TB := mm_tb (mm_t5 (List.mem_of_getElem? (i := 55) rfl)) rfl
theorem ws_X7_type : Cond.selects RX7 yX7_type yX7_type ∈ mm_TB := mm_tb (mm_t5 (List.mem_of_getElem? (i := 56) rfl)) rfl
theorem wc_X7_type : Cond.code yX7_type cX7_type 5 (some .int) ∈ mm_TB := mm_tb (mm_t5 (List.mem_of_getElem? (i := 57) rfl)) rfl
theorem wk_X7_147 : Cond.constantLong RX7 147 (8) ∈ mm_TB := mm_tb (mm_t5 (List.mem_of_getElem? (i := 58) rfl)) rfl
theorem wk_X7_149 : Cond.constantLong RX7 149 (255) ∈ mm_TB := mm_tb (mm_t5 (List.mem_of_getElem? (i := 59) rfl)) rfl
theorem wk_X7_151 : Cond.constantLong RX7 151 (32) ∈ mm_TB := mm_tb (mm_t5 (List.mem_of_getElem? (i := 60) rfl)) rfl
theorem wk_X7_153 : Cond.constantLong RX7 153 (126) ∈ mm_TB := mm_tb (mm_t5 (List.mem_of_getElem? (i := 61) rfl)) rfl
theorem wl_L_55 : Cond.methodLink RL 55 yX7_laws ∈ mm_TB := mm_tb (mm_t5 (List.mem_of_getElem? (i := 62) rfl)) rfl
theorem wi_X7_laws : Cond.instanceMethod yX7_laws ∈ mm_TB := mm_tb (mm_t5 (List.mem_of_getElem? (i := 63) rfl)) rfl
theorem ws_X7_laws : Cond.selects RX7 yX7_laws yX7_laws ∈ mm_TB := mm_tb (mm_t5 (List.mem_of_getElem? (i := 64) rfl)) rfl
theorem wc_X7_laws : Cond.code yX7_laws cX7_laws 3 (some .int) ∈ mm_TB := mm_tb (mm_t5 (List.mem_of_getElem? (i := 65) rfl)) rfl
theorem wl_X7_178 : Cond.methodLink RX7 178 yX7_readLaws ∈ mm_TB := mm_tb (mm_t5 (List.mem_of_getElem? (i := 66) rfl)) rfl
theorem wi_X7_readLaws : Cond.instanceMethod yX7_readLaws ∈ mm_TB := mm_tb (mm_t5 (List.mem_of_getElem? (i := 68) rfl)) rfl
theorem wc_X7_readLaws : Cond.code yX7_readLaws cX7_readLaws 2 (some .boolean) ∈ mm_TB := mm_tb (mm_t5 (List.mem_of_getElem? (i := 69) rfl)) rfl
theorem wl_X7_161 : Cond.methodLink RX7 161 yX7_nextByte ∈ mm_TB := mm_tb (mm_t5 (List.mem_of_getElem? (i := 70) rfl)) rfl
theorem wi_X7_nextByte : Cond.instanceMethod yX7_nextByte ∈ mm_TB := mm_tb (mm_t5 (List.mem_of_getElem? (i := 72) rfl)) rfl
theorem wc_X7_nextByte : Cond.code yX7_nextByte cX7_nextByte 1 (some .int) ∈ mm_TB := mm_tb (mm_t5 (List.mem_of_getElem? (i := 73) rfl)) rfl
theorem wl_X7_172 : Cond.methodLink RX7 172 yX7_letterOf ∈ mm_TB := mm_tb (mm_t5 (List.mem_of_getElem? (i := 74) rfl)) rfl
theorem wt_X7_letterOf : Cond.static yX7_letterOf ∈ mm_TB := mm_tb (mm_t5 (List.mem_of_getElem? (i := 75) rfl)) rfl
theorem wc_X7_letterOf : Cond.code yX7_letterOf cX7_letterOf 1 (some .int) ∈ mm_TB := mm_tb (mm_t5 (List.mem_of_getElem? (i := 76) rfl)) rfl
theorem wl_X7_175 : Cond.methodLink RX7 175 yX7_readNumber ∈ mm_TB := mm_tb (mm_t5 (List.mem_of_getElem? (i := 77) rfl)) rfl
theorem wi_X7_readNumber : Cond.instanceMethod yX7_readNumber ∈ mm_TB := mm_tb (mm_t5 (List.mem_of_getElem? (i := 79) rfl)) rfl
theorem wc_X7_readNumber : Cond.code yX7_readNumber cX7_readNumber 5 (some .int) ∈ mm_TB := mm_tb (mm_t5 (List.mem_of_getElem? (i := 80) rfl)) rfl
theorem wk_X7_165 : Cond.constantLong RX7 165 (48) ∈ mm_TB := mm_tb (mm_t5 (List.mem_of_getElem? (i := 81) rfl)) rfl
theorem wk_X7_167 : Cond.constantLong RX7 167 (57) ∈ mm_TB := mm_tb (mm_t5 (List.mem_of_getElem? (i := 82) rfl)) rfl
theorem wl_L_59 : Cond.methodLink RL 59 yX7_people ∈ mm_TB := mm_tb (mm_t5 (List.mem_of_getElem? (i := 83) rfl)) rfl
theorem wi_X7_people : Cond.instanceMethod yX7_people ∈ mm_TB := mm_tb (mm_t5 (List.mem_of_getElem? (i := 84) rfl)) rfl
theorem ws_X7_people : Cond.selects RX7 yX7_people yX7_people ∈ mm_TB := mm_tb (mm_t5 (List.mem_of_getElem? (i := 85) rfl)) rfl
theorem wc_X7_people : Cond.code yX7_people cX7_people 2 (some .int) ∈ mm_TB := mm_tb (mm_t5 (List.mem_of_getElem? (i := 86) rfl)) rfl
theorem wl_X7_185 : Cond.methodLink RX7 185 yX7_readPeople ∈ mm_TB := mm_tb (mm_t5 (List.mem_of_getElem? (i := 87) rfl)) rfl
theorem wi_X7_readPeople : Cond.instanceMethod yX7_readPeople ∈ mm_TB := mm_tb (mm_t5 (List.mem_of_getElem? (i := 89) rfl)) rfl
theorem wc_X7_readPeople : Cond.code yX7_readPeople cX7_readPeople 3 (some .boolean) ∈ mm_TB := mm_tb (mm_t5 (List.mem_of_getElem? (i := 90) rfl)) rfl
theorem wl_X7_182 : Cond.methodLink RX7 182 yX7_readPerson ∈ mm_TB := mm_tb (mm_t5 (List.mem_of_getElem? (i := 91) rfl)) rfl
theorem wi_X7_readPerson : Cond.instanceMethod yX7_readPerson ∈ mm_TB := mm_tb (mm_t5 (List.mem_of_getElem? (i := 93) rfl)) rfl
theorem wc_X7_readPerson : Cond.code yX7_readPerson cX7_readPerson 3 (some .boolean) ∈ mm_TB := mm_tb (mm_t5 (List.mem_of_getElem? (i := 94) rfl)) rfl
theorem wl_X7_188 : Cond.methodLink RX7 188 yX7_addRead ∈ mm_TB := mm_tb (mm_t5 (List.mem_of_getElem? (i := 95) rfl)) rfl
theorem wi_X7_addRead : Cond.instanceMethod yX7_addRead ∈ mm_TB := mm_tb (mm_t5 (List.mem_of_getElem? (i := 97) rfl)) rfl
theorem wc_X7_addRead : Cond.code yX7_addRead cX7_addRead 2 none ∈ mm_TB := mm_tb (mm_t5 (List.mem_of_getElem? (i := 98) rfl)) rfl
theorem wl_L_67 : Cond.methodLink RL 67 yX7_fate ∈ mm_TB := mm_tb (mm_t5 (List.mem_of_getElem? (i := 99) rfl)) rfl
theorem wi_X7_fate : Cond.instanceMethod yX7_fate ∈ mm_TB := mm_tb (mm_t5 (List.mem_of_getElem? (i := 100) rfl)) rfl
theorem ws_X7_fate : Cond.selects RX7 yX7_fate yX7_fate ∈ mm_TB := mm_tb (mm_t5 (List.mem_of_getElem? (i := 101) rfl)) rfl
theorem wc_X7_fate : Cond.code yX7_fate cX7_fate 3 (some .int) ∈ mm_TB := mm_tb (mm_t5 (List.mem_of_getElem? (i := 102) rfl)) rfl
theorem wk_X7_243 : Cond.constantLong RX7 243 (4) ∈ mm_TB := mm_tb (mm_t5 (List.mem_of_getElem? (i := 103) rfl)) rfl
theorem wl_X7_245 : Cond.methodLink RX7 245 yX7_goAll ∈ mm_TB := mm_tb (mm_t5 (List.mem_of_getElem? (i := 104) rfl)) rfl
theorem wi_X7_goAll : Cond.instanceMethod yX7_goAll ∈ mm_TB := mm_tb (mm_t5 (List.mem_of_getElem? (i := 106) rfl)) rfl
theorem wc_X7_goAll : Cond.code yX7_goAll cX7_goAll 1 none ∈ mm_TB := mm_tb (mm_t5 (List.mem_of_getElem? (i := 107) rfl)) rfl
theorem wl_X7_237 : Cond.methodLink RX7 237 yX7_begin ∈ mm_TB := mm_tb (mm_t5 (List.mem_of_getElem? (i := 108) rfl)) rfl
theorem wi_X7_begin : Cond.instanceMethod yX7_begin ∈ mm_TB := mm_tb (mm_t5 (List.mem_of_getElem? (i := 110) rfl)) rfl
theorem wc_X7_begin : Cond.code yX7_begin cX7_begin 2 none ∈ mm_TB := mm_tb (mm_t5 (List.mem_of_getElem? (i := 111) rfl)) rfl
theorem wl_X7_240 : Cond.methodLink RX7 240 yX7_goTo ∈ mm_TB := mm_tb (mm_t5 (List.mem_of_getElem? (i := 112) rfl)) rfl
theorem wi_X7_goTo : Cond.instanceMethod yX7_goTo ∈ mm_TB := mm_tb (mm_t5 (List.mem_of_getElem? (i := 114) rfl)) rfl
theorem wc_X7_goTo : Cond.code yX7_goTo cX7_goTo 3 none ∈ mm_TB := mm_tb (mm_t5 (List.mem_of_getElem? (i := 115) rfl)) rfl
theorem wl_X7_228 : Cond.methodLink RX7 228 yX7_goOn ∈ mm_TB := mm_tb (mm_t5 (List.mem_of_getElem? (i := 116) rfl)) rfl
theorem wi_X7_goOn : Cond.instanceMethod yX7_goOn ∈ mm_TB := mm_tb (mm_t5 (List.mem_of_getElem? (i := 118) rfl)) rfl
theorem wc_X7_goOn : Cond.code yX7_goOn cX7_goOn 2 none ∈ mm_TB := mm_tb (mm_t5 (List.mem_of_getElem? (i := 119) rfl)) rfl
theorem wl_X7_231 : Cond.methodLink RX7 231 yX7_stepOff ∈ mm_TB := mm_tb (mm_t5 (List.mem_of_getElem? (i := 120) rfl)) rfl
theorem wi_X7_stepOff : Cond.instanceMethod yX7_stepOff ∈ mm_TB := mm_tb (mm_t5 (List.mem_of_getElem? (i := 122) rfl)) rfl
theorem wc_X7_stepOff : Cond.code yX7_stepOff cX7_stepOff 8 none ∈ mm_TB := mm_tb (mm_t5 (List.mem_of_getElem? (i := 123) rfl)) rfl
theorem wl_X7_206 : Cond.methodLink RX7 206 yX7_mustWait ∈ mm_TB := mm_tb (mm_t5 (List.mem_of_getElem? (i := 124) rfl)) rfl
theorem wi_X7_mustWait : Cond.instanceMethod yX7_mustWait ∈ mm_TB := mm_tb (mm_t5 (List.mem_of_getElem? (i := 126) rfl)) rfl
theorem wc_X7_mustWait : Cond.code yX7_mustWait cX7_mustWait 3 (some .boolean) ∈ mm_TB := mm_tb (mm_t5 (List.mem_of_getElem? (i := 127) rfl)) rfl
theorem wl_X7_209 : Cond.methodLink RX7 209 yX7_countsAt ∈ mm_TB := mm_tb (mm_t5 (List.mem_of_getElem? (i := 128) rfl)) rfl
theorem wi_X7_countsAt : Cond.instanceMethod yX7_countsAt ∈ mm_TB := mm_tb (mm_t5 (List.mem_of_getElem? (i := 130) rfl)) rfl
theorem wc_X7_countsAt : Cond.code yX7_countsAt cX7_countsAt 6 (some .int) ∈ mm_TB := mm_tb (mm_t5 (List.mem_of_getElem? (i := 131) rfl)) rfl
theorem wl_X7_213 : Cond.methodLink RX7 213 yX7_comeOver ∈ mm_TB := mm_tb (mm_t5 (List.mem_of_getElem? (i := 132) rfl)) rfl
theorem wi_X7_comeOver : Cond.instanceMethod yX7_comeOver ∈ mm_TB := mm_tb (mm_t5 (List.mem_of_getElem? (i := 134) rfl)) rfl
theorem wc_X7_comeOver : Cond.code yX7_comeOver cX7_comeOver 3 none ∈ mm_TB := mm_tb (mm_t5 (List.mem_of_getElem? (i := 135) rfl)) rfl
theorem wl_X7_217 : Cond.methodLink RX7 217 yX7_grow ∈ mm_TB := mm_tb (mm_t5 (List.mem_of_getElem? (i := 136) rfl)) rfl
theorem wi_X7_grow : Cond.instanceMethod yX7_grow ∈ mm_TB := mm_tb (mm_t5 (List.mem_of_getElem? (i := 138) rfl)) rfl
theorem wc_X7_grow : Cond.code yX7_grow cX7_grow 2 none ∈ mm_TB := mm_tb (mm_t5 (List.mem_of_getElem? (i := 139) rfl)) rfl
theorem wl_X7_203 : Cond.methodLink RX7 203 yX7_least ∈ mm_TB := mm_tb (mm_t5 (List.mem_of_getElem? (i := 140) rfl)) rfl
theorem wt_X7_least : Cond.static yX7_least ∈ mm_TB := mm_tb (mm_t5 (List.mem_of_getElem? (i := 141) rfl)) rfl
theorem wc_X7_least : Cond.code yX7_least cX7_least 2 (some .int) ∈ mm_TB := mm_tb (mm_t5 (List.mem_of_getElem? (i := 142) rfl)) rfl
theorem wl_X7_234 : Cond.methodLink RX7 234 yX7_startAll ∈ mm_TB := mm_tb (mm_t5 (List.mem_of_getElem? (i := 143) rfl)) rfl
theorem wi_X7_startAll : Cond.instanceMethod yX7_startAll ∈ mm_TB := mm_tb (mm_t5 (List.mem_of_getElem? (i := 145) rfl)) rfl
theorem wc_X7_startAll : Cond.code yX7_startAll cX7_startAll 5 none ∈ mm_TB := mm_tb (mm_t5 (List.mem_of_getElem? (i := 146) rfl)) rfl
theorem wl_X7_225 : Cond.methodLink RX7 225 yX7_start ∈ mm_TB := mm_tb (mm_t5 (List.mem_of_getElem? (i := 147) rfl)) rfl
theorem wi_X7_start : Cond.instanceMethod yX7_start ∈ mm_TB := mm_tb (mm_t5 (List.mem_of_getElem? (i := 149) rfl)) rfl
theorem wc_X7_start : Cond.code yX7_start cX7_start 5 none ∈ mm_TB := mm_tb (mm_t5 (List.mem_of_getElem? (i := 150) rfl)) rfl
theorem wl_X7_221 : Cond.methodLink RX7 221 yX7_has ∈ mm_TB := mm_tb (mm_t5 (List.mem_of_getElem? (i := 151) rfl)) rfl
theorem wt_X7_has : Cond.static yX7_has ∈ mm_TB := mm_tb (mm_t5 (List.mem_of_getElem? (i := 152) rfl)) rfl
theorem wc_X7_has : Cond.code yX7_has cX7_has 2 (some .boolean) ∈ mm_TB := mm_tb (mm_t5 (List.mem_of_getElem? (i := 153) rfl)) rfl
theorem wl_X7_248 : Cond.methodLink RX7 248 yX7_wetOf ∈ mm_TB := mm_tb (mm_t5 (List.mem_of_getElem? (i := 154) rfl)) rfl
theorem wi_X7_wetOf : Cond.instanceMethod yX7_wetOf ∈ mm_TB := mm_tb (mm_t5 (List.mem_of_getElem? (i := 156) rfl)) rfl
theorem wc_X7_wetOf : Cond.code yX7_wetOf cX7_wetOf 2 (some .int) ∈ mm_TB := mm_tb (mm_t5 (List.mem_of_getElem? (i := 157) rfl)) rfl
theorem wl_L_71 : Cond.methodLink RL 71 yX7_at ∈ mm_TB := mm_tb (mm_t5 (List.mem_of_getElem? (i := 158) rfl)) rfl
theorem wi_X7_at : Cond.instanceMethod yX7_at ∈ mm_TB := mm_tb (mm_t5 (List.mem_of_getElem? (i := 159) rfl)) rfl
theorem ws_X7_at : Cond.selects RX7 yX7_at yX7_at ∈ mm_TB := mm_tb (mm_t5 (List.mem_of_getElem? (i := 160) rfl)) rfl
theorem wc_X7_at : Cond.code yX7_at cX7_at 7 (some .int) ∈ mm_TB := mm_tb (mm_t5 (List.mem_of_getElem? (i := 161) rfl)) rfl
theorem wk_X7_251 : Cond.constantLong RX7 251 (999) ∈ mm_TB := mm_tb (mm_t5 (List.mem_of_getElem? (i := 162) rfl)) rfl
theorem wl_L_75 : Cond.methodLink RL 75 yX7_gone ∈ mm_TB := mm_tb (mm_t5 (List.mem_of_getElem? (i := 163) rfl)) rfl
theorem wi_X7_gone : Cond.instanceMethod yX7_gone ∈ mm_TB := mm_tb (mm_t5 (List.mem_of_getElem? (i := 164) rfl)) rfl
theorem ws_X7_gone : Cond.selects RX7 yX7_gone yX7_gone ∈ mm_TB := mm_tb (mm_t5 (List.mem_of_getElem? (i := 165) rfl)) rfl
theorem wc_X7_gone : Cond.code yX7_gone cX7_gone 3 (some .int) ∈ mm_TB := mm_tb (mm_t5 (List.mem_of_getElem? (i := 166) rfl)) rfl
theorem wl_L_79 : Cond.methodLink RL 79 yX7_all ∈ mm_TB := mm_tb (mm_t5 (List.mem_of_getElem? (i := 167) rfl)) rfl
theorem wi_X7_all : Cond.instanceMethod yX7_all ∈ mm_TB := mm_tb (mm_t5 (List.mem_of_getElem? (i := 168) rfl)) rfl
theorem ws_X7_all : Cond.selects RX7 yX7_all yX7_all ∈ mm_TB := mm_tb (mm_t5 (List.mem_of_getElem? (i := 169) rfl)) rfl
theorem wc_X7_all : Cond.code yX7_all cX7_all 4 (some .int) ∈ mm_TB := mm_tb (mm_t5 (List.mem_of_getElem? (i := 170) rfl)) rfl
theorem wl_X7_253 : Cond.methodLink RX7 253 yX7_sumOver ∈ mm_TB := mm_tb (mm_t5 (List.mem_of_getElem? (i := 171) rfl)) rfl
theorem wi_X7_sumOver : Cond.instanceMethod yX7_sumOver ∈ mm_TB := mm_tb (mm_t5 (List.mem_of_getElem? (i := 173) rfl)) rfl
theorem wc_X7_sumOver : Cond.code yX7_sumOver cX7_sumOver 3 (some .int) ∈ mm_TB := mm_tb (mm_t5 (List.mem_of_getElem? (i := 174) rfl)) rfl
theorem wl_X7_256 : Cond.methodLink RX7 256 yX7_lastOver ∈ mm_TB := mm_tb (mm_t5 (List.mem_of_getElem? (i := 175) rfl)) rfl
theorem wi_X7_lastOver : Cond.instanceMethod yX7_lastOver ∈ mm_TB := mm_tb (mm_t5 (List.mem_of_getElem? (i := 177) rfl)) rfl
theorem wc_X7_lastOver : Cond.code yX7_lastOver cX7_lastOver 3 (some .int) ∈ mm_TB := mm_tb (mm_t5 (List.mem_of_getElem? (i := 178) rfl)) rfl
theorem wl_L_83 : Cond.methodLink RL 83 yX7_soonest ∈ mm_TB := mm_tb (mm_t5 (List.mem_of_getElem? (i := 179) rfl)) rfl
theorem wi_X7_soonest : Cond.instanceMethod yX7_soonest ∈ mm_TB := mm_tb (mm_t5 (List.mem_of_getElem? (i := 180) rfl)) rfl
theorem ws_X7_soonest : Cond.selects RX7 yX7_soonest yX7_soonest ∈ mm_TB := mm_tb (mm_t5 (List.mem_of_getElem? (i := 181) rfl)) rfl
theorem wc_X7_soonest : Cond.code yX7_soonest cX7_soonest 4 (some .int) ∈ mm_TB := mm_tb (mm_t5 (List.mem_of_getElem? (i := 182) rfl)) rfl
theorem wl_X7_280 : Cond.methodLink RX7 280 yX7_takeSome ∈ mm_TB := mm_tb (mm_t5 (List.mem_of_getElem? (i := 183) rfl)) rfl
theorem wi_X7_takeSome : Cond.instanceMethod yX7_takeSome ∈ mm_TB := mm_tb (mm_t5 (List.mem_of_getElem? (i := 185) rfl)) rfl
theorem wc_X7_takeSome : Cond.code yX7_takeSome cX7_takeSome 3 (some .boolean) ∈ mm_TB := mm_tb (mm_t5 (List.mem_of_getElem? (i := 186) rfl)) rfl
theorem wl_X7_262 : Cond.methodLink RX7 262 yX7_onesOf ∈ mm_TB := mm_tb (mm_t5 (List.mem_of_getElem? (i := 187) rfl)) rfl
theorem wt_X7_onesOf : Cond.static yX7_onesOf ∈ mm_TB := mm_tb (mm_t5 (List.mem_of_getElem? (i := 188) rfl)) rfl
theorem wc_X7_onesOf : Cond.code yX7_onesOf cX7_onesOf 3 (some .int) ∈ mm_TB := mm_tb (mm_t5 (List.mem_of_getElem? (i := 189) rfl)) rfl
theorem wk_X7_283 : Cond.constantLong RX7 283 (-2) ∈ mm_TB := mm_tb (mm_t5 (List.mem_of_getElem? (i := 190) rfl)) rfl
theorem wl_X7_285 : Cond.methodLink RX7 285 yX7_goCompanies ∈ mm_TB := mm_tb (mm_t5 (List.mem_of_getElem? (i := 191) rfl)) rfl
theorem wi_X7_goCompanies : Cond.instanceMethod yX7_goCompanies ∈ mm_TB := mm_tb (mm_t5 (List.mem_of_getElem? (i := 193) rfl)) rfl
theorem wc_X7_goCompanies : Cond.code yX7_goCompanies cX7_goCompanies 10 none ∈ mm_TB := mm_tb (mm_t5 (List.mem_of_getElem? (i := 194) rfl)) rfl
theorem wl_X7_271 : Cond.methodLink RX7 271 yX7_beginSome ∈ mm_TB := mm_tb (mm_t5 (List.mem_of_getElem? (i := 195) rfl)) rfl
theorem wi_X7_beginSome : Cond.instanceMethod yX7_beginSome ∈ mm_TB := mm_tb (mm_t5 (List.mem_of_getElem? (i := 197) rfl)) rfl
theorem wc_X7_beginSome : Cond.code yX7_beginSome cX7_beginSome 2 none ∈ mm_TB := mm_tb (mm_t5 (List.mem_of_getElem? (i := 198) rfl)) rfl
theorem wl_X7_274 : Cond.methodLink RX7 274 yX7_goSome ∈ mm_TB := mm_tb (mm_t5 (List.mem_of_getElem? (i := 199) rfl)) rfl
theorem wi_X7_goSome : Cond.instanceMethod yX7_goSome ∈ mm_TB := mm_tb (mm_t5 (List.mem_of_getElem? (i := 201) rfl)) rfl
theorem wc_X7_goSome : Cond.code yX7_goSome cX7_goSome 2 none ∈ mm_TB := mm_tb (mm_t5 (List.mem_of_getElem? (i := 202) rfl)) rfl
theorem wl_X7_277 : Cond.methodLink RX7 277 yX7_isSpiting ∈ mm_TB := mm_tb (mm_t5 (List.mem_of_getElem? (i := 203) rfl)) rfl
theorem wi_X7_isSpiting : Cond.instanceMethod yX7_isSpiting ∈ mm_TB := mm_tb (mm_t5 (List.mem_of_getElem? (i := 205) rfl)) rfl
theorem wc_X7_isSpiting : Cond.code yX7_isSpiting cX7_isSpiting 2 (some .boolean) ∈ mm_TB := mm_tb (mm_t5 (List.mem_of_getElem? (i := 206) rfl)) rfl
theorem wl_X7_288 : Cond.methodLink RX7 288 yX7_judge ∈ mm_TB := mm_tb (mm_t5 (List.mem_of_getElem? (i := 207) rfl)) rfl
theorem wi_X7_judge : Cond.instanceMethod yX7_judge ∈ mm_TB := mm_tb (mm_t5 (List.mem_of_getElem? (i := 209) rfl)) rfl
theorem wc_X7_judge : Cond.code yX7_judge cX7_judge 4 none ∈ mm_TB := mm_tb (mm_t5 (List.mem_of_getElem? (i := 210) rfl)) rfl
theorem wl_X7_291 : Cond.methodLink RX7 291 yX7_nextRow ∈ mm_TB := mm_tb (mm_t5 (List.mem_of_getElem? (i := 211) rfl)) rfl
theorem wi_X7_nextRow : Cond.instanceMethod yX7_nextRow ∈ mm_TB := mm_tb (mm_t5 (List.mem_of_getElem? (i := 213) rfl)) rfl
theorem wc_X7_nextRow : Cond.code yX7_nextRow cX7_nextRow 4 (some .boolean) ∈ mm_TB := mm_tb (mm_t5 (List.mem_of_getElem? (i := 214) rfl)) rfl
theorem wl_L_88 : Cond.methodLink RL 88 yX7_order ∈ mm_TB := mm_tb (mm_t5 (List.mem_of_getElem? (i := 215) rfl)) rfl
theorem wi_X7_order : Cond.instanceMethod yX7_order ∈ mm_TB := mm_tb (mm_t5 (List.mem_of_getElem? (i := 216) rfl)) rfl
theorem ws_X7_order : Cond.selects RX7 yX7_order yX7_order ∈ mm_TB := mm_tb (mm_t5 (List.mem_of_getElem? (i := 217) rfl)) rfl
theorem wc_X7_order : Cond.code yX7_order cX7_order 5 (some .int) ∈ mm_TB := mm_tb (mm_t5 (List.mem_of_getElem? (i := 218) rfl)) rfl
theorem wl_X7_294 : Cond.methodLink RX7 294 yX7_goOrder ∈ mm_TB := mm_tb (mm_t5 (List.mem_of_getElem? (i := 219) rfl)) rfl
theorem wi_X7_goOrder : Cond.instanceMethod yX7_goOrder ∈ mm_TB := mm_tb (mm_t5 (List.mem_of_getElem? (i := 221) rfl)) rfl
theorem wc_X7_goOrder : Cond.code yX7_goOrder cX7_goOrder 8 none ∈ mm_TB := mm_tb (mm_t5 (List.mem_of_getElem? (i := 222) rfl)) rfl
theorem wl_X7_297 : Cond.methodLink RX7 297 yX7_nextOrder ∈ mm_TB := mm_tb (mm_t5 (List.mem_of_getElem? (i := 223) rfl)) rfl
theorem wi_X7_nextOrder : Cond.instanceMethod yX7_nextOrder ∈ mm_TB := mm_tb (mm_t5 (List.mem_of_getElem? (i := 225) rfl)) rfl
theorem wc_X7_nextOrder : Cond.code yX7_nextOrder cX7_nextOrder 6 (some .boolean) ∈ mm_TB := mm_tb (mm_t5 (List.mem_of_getElem? (i := 226) rfl)) rfl
theorem wl_L_92 : Cond.methodLink RL 92 yX7_worth ∈ mm_TB := mm_tb (mm_t5 (List.mem_of_getElem? (i := 227) rfl)) rfl
theorem wi_X7_worth : Cond.instanceMethod yX7_worth ∈ mm_TB := mm_tb (mm_t5 (List.mem_of_getElem? (i := 228) rfl)) rfl
theorem ws_X7_worth : Cond.selects RX7 yX7_worth yX7_worth ∈ mm_TB := mm_tb (mm_t5 (List.mem_of_getElem? (i := 229) rfl)) rfl
theorem wc_X7_worth : Cond.code yX7_worth cX7_worth 4 (some .int) ∈ mm_TB := mm_tb (mm_t5 (List.mem_of_getElem? (i := 230) rfl)) rfl
theorem wk_X7_300 : Cond.constant RX7 300 (-100001) ∈ mm_TB := mm_tb (mm_t5 (List.mem_of_getElem? (i := 231) rfl)) rfl
theorem wl_X7_301 : Cond.methodLink RX7 301 yX7_sumIf ∈ mm_TB := mm_tb (mm_t5 (List.mem_of_getElem? (i := 232) rfl)) rfl
theorem wi_X7_sumIf : Cond.instanceMethod yX7_sumIf ∈ mm_TB := mm_tb (mm_t5 (List.mem_of_getElem? (i := 234) rfl)) rfl
theorem wc_X7_sumIf : Cond.code yX7_sumIf cX7_sumIf 3 (some .int) ∈ mm_TB := mm_tb (mm_t5 (List.mem_of_getElem? (i := 235) rfl)) rfl
theorem wl_L_96 : Cond.methodLink RL 96 yX7_waits ∈ mm_TB := mm_tb (mm_t5 (List.mem_of_getElem? (i := 236) rfl)) rfl
theorem wi_X7_waits : Cond.instanceMethod yX7_waits ∈ mm_TB := mm_tb (mm_t5 (List.mem_of_getElem? (i := 237) rfl)) rfl
theorem ws_X7_waits : Cond.selects RX7 yX7_waits yX7_waits ∈ mm_TB := mm_tb (mm_t5 (List.mem_of_getElem? (i := 238) rfl)) rfl
theorem wc_X7_waits : Cond.code yX7_waits cX7_waits 6 (some .int) ∈ mm_TB := mm_tb (mm_t5 (List.mem_of_getElem? (i := 239) rfl)) rfl
theorem wl_L_100 : Cond.methodLink RL 100 yX7_handed ∈ mm_TB := mm_tb (mm_t6 (List.mem_of_getElem? (i := 0) rfl)) rfl
theorem wi_X7_handed : Cond.instanceMethod yX7_handed ∈ mm_TB := mm_tb (mm_t6 (List.mem_of_getElem? (i := 1) rfl)) rfl
theorem ws_X7_handed : Cond.selects RX7 yX7_handed yX7_handed ∈ mm_TB := mm_tb (mm_t6 (List.mem_of_getElem? (i := 2) rfl)) rfl
theorem wc_X7_handed : Cond.code yX7_handed cX7_handed 4 (some .int) ∈ mm_TB := mm_tb (mm_t6 (List.mem_of_getElem? (i := 3) rfl)) rfl
theorem wl_L_104 : Cond.methodLink RL 104 yX7_ford ∈ mm_TB := mm_tb (mm_t6 (List.mem_of_getElem? (i := 4) rfl)) rfl
theorem wi_X7_ford : Cond.instanceMethod yX7_ford ∈ mm_TB := mm_tb (mm_t6 (List.mem_of_getElem? (i := 5) rfl)) rfl
theorem ws_X7_ford : Cond.selects RX7 yX7_ford yX7_ford ∈ mm_TB := mm_tb (mm_t6 (List.mem_of_getElem? (i := 6) rfl)) rfl
theorem wc_X7_ford : Cond.code yX7_ford cX7_ford 2 (some .int) ∈ mm_TB := mm_tb (mm_t6 (List.mem_of_getElem? (i := 7) rfl)) rfl
theorem wl_L_108 : Cond.methodLink RL 108 yX7_shared ∈ mm_TB := mm_tb (mm_t6 (List.mem_of_getElem? (i := 8) rfl)) rfl
theorem wi_X7_shared : Cond.instanceMethod yX7_shared ∈ mm_TB := mm_tb (mm_t6 (List.mem_of_getElem? (i := 9) rfl)) rfl
theorem ws_X7_shared : Cond.selects RX7 yX7_shared yX7_shared ∈ mm_TB := mm_tb (mm_t6 (List.mem_of_getElem? (i := 10) rfl)) rfl
theorem wc_X7_shared : Cond.code yX7_shared cX7_shared 7 (some .int) ∈ mm_TB := mm_tb (mm_t6 (List.mem_of_getElem? (i := 11) rfl)) rfl
theorem wk_X7_304 : Cond.constantLong RX7 304 (10) ∈ mm_TB := mm_tb (mm_t6 (List.mem_of_getElem? (i := 12) rfl)) rfl
theorem wl_L_113 : Cond.methodLink RL 113 yX7_late ∈ mm_TB := mm_tb (mm_t6 (List.mem_of_getElem? (i := 13) rfl)) rfl
theorem wi_X7_late : Cond.instanceMethod yX7_late ∈ mm_TB := mm_tb (mm_t6 (List.mem_of_getElem? (i := 14) rfl)) rfl
theorem ws_X7_late : Cond.selects RX7 yX7_late yX7_late ∈ mm_TB := mm_tb (mm_t6 (List.mem_of_getElem? (i := 15) rfl)) rfl
theorem wc_X7_late : Cond.code yX7_late cX7_late 9 (some .int) ∈ mm_TB := mm_tb (mm_t6 (List.mem_of_getElem? (i := 16) rfl)) rfl
theorem wk_X7_306 : Cond.constantLong RX7 306 (40) ∈ mm_TB := mm_tb (mm_t6 (List.mem_of_getElem? (i := 17) rfl)) rfl
theorem wl_L_117 : Cond.methodLink RL 117 yX7_other ∈ mm_TB := mm_tb (mm_t6 (List.mem_of_getElem? (i := 18) rfl)) rfl
theorem wi_X7_other : Cond.instanceMethod yX7_other ∈ mm_TB := mm_tb (mm_t6 (List.mem_of_getElem? (i := 19) rfl)) rfl
theorem ws_X7_other : Cond.selects RX7 yX7_other yX7_other ∈ mm_TB := mm_tb (mm_t6 (List.mem_of_getElem? (i := 20) rfl)) rfl
theorem wc_X7_other : Cond.code yX7_other cX7_other 3 (some .int) ∈ mm_TB := mm_tb (mm_t6 (List.mem_of_getElem? (i := 21) rfl)) rfl
theorem wk_X7_308 : Cond.constantLong RX7 308 (2) ∈ mm_TB := mm_tb (mm_t6 (List.mem_of_getElem? (i := 22) rfl)) rfl
theorem wl_L_121 : Cond.methodLink RL 121 yX7_image ∈ mm_TB := mm_tb (mm_t6 (List.mem_of_getElem? (i := 23) rfl)) rfl
theorem wi_X7_image : Cond.instanceMethod yX7_image ∈ mm_TB := mm_tb (mm_t6 (List.mem_of_getElem? (i := 24) rfl)) rfl
theorem ws_X7_image : Cond.selects RX7 yX7_image yX7_image ∈ mm_TB := mm_tb (mm_t6 (List.mem_of_getElem? (i := 25) rfl)) rfl
theorem wc_X7_image : Cond.code yX7_image cX7_image 2 (some .int) ∈ mm_TB := mm_tb (mm_t6 (List.mem_of_getElem? (i := 26) rfl)) rfl
theorem wl_L_125 : Cond.methodLink RL 125 yX7_restore ∈ mm_TB := mm_tb (mm_t6 (List.mem_of_getElem? (i := 27) rfl)) rfl
theorem wi_X7_restore : Cond.instanceMethod yX7_restore ∈ mm_TB := mm_tb (mm_t6 (List.mem_of_getElem? (i := 28) rfl)) rfl
theorem ws_X7_restore : Cond.selects RX7 yX7_restore yX7_restore ∈ mm_TB := mm_tb (mm_t6 (List.mem_of_getElem? (i := 29) rfl)) rfl
theorem wc_X7_restore : Cond.code yX7_restore cX7_restore 2 (some .int) ∈ mm_TB := mm_tb (mm_t6 (List.mem_of_getElem? (i := 30) rfl)) rfl
theorem wl_L_133 : Cond.methodLink RL 133 yX7_sheet ∈ mm_TB := mm_tb (mm_t6 (List.mem_of_getElem? (i := 31) rfl)) rfl
theorem wi_X7_sheet : Cond.instanceMethod yX7_sheet ∈ mm_TB := mm_tb (mm_t6 (List.mem_of_getElem? (i := 32) rfl)) rfl
theorem ws_X7_sheet : Cond.selects RX7 yX7_sheet yX7_sheet ∈ mm_TB := mm_tb (mm_t6 (List.mem_of_getElem? (i := 33) rfl)) rfl
theorem wc_X7_sheet : Cond.code yX7_sheet cX7_sheet 5 (some .int) ∈ mm_TB := mm_tb (mm_t6 (List.mem_of_getElem? (i := 34) rfl)) rfl
theorem wl_X7_320 : Cond.methodLink RX7 320 yX7_isSheet ∈ mm_TB := mm_tb (mm_t6 (List.mem_of_getElem? (i := 35) rfl)) rfl
theorem wt_X7_isSheet : Cond.static yX7_isSheet ∈ mm_TB := mm_tb (mm_t6 (List.mem_of_getElem? (i := 36) rfl)) rfl
theorem wc_X7_isSheet : Cond.code yX7_isSheet cX7_isSheet 2 (some .boolean) ∈ mm_TB := mm_tb (mm_t6 (List.mem_of_getElem? (i := 37) rfl)) rfl
theorem wl_L_137 : Cond.methodLink RL 137 yX7_drop ∈ mm_TB := mm_tb (mm_t6 (List.mem_of_getElem? (i := 38) rfl)) rfl
theorem wi_X7_drop : Cond.instanceMethod yX7_drop ∈ mm_TB := mm_tb (mm_t6 (List.mem_of_getElem? (i := 39) rfl)) rfl
theorem ws_X7_drop : Cond.selects RX7 yX7_drop yX7_drop ∈ mm_TB := mm_tb (mm_t6 (List.mem_of_getElem? (i := 40) rfl)) rfl
theorem wc_X7_drop : Cond.code yX7_drop cX7_drop 2 (some .int) ∈ mm_TB := mm_tb (mm_t6 (List.mem_of_getElem? (i := 41) rfl)) rfl
theorem wl_L_141 : Cond.methodLink RL 141 yX7_item ∈ mm_TB := mm_tb (mm_t6 (List.mem_of_getElem? (i := 42) rfl)) rfl
theorem wi_X7_item : Cond.instanceMethod yX7_item ∈ mm_TB := mm_tb (mm_t6 (List.mem_of_getElem? (i := 43) rfl)) rfl
theorem ws_X7_item : Cond.selects RX7 yX7_item yX7_item ∈ mm_TB := mm_tb (mm_t6 (List.mem_of_getElem? (i := 44) rfl)) rfl
theorem wc_X7_item : Cond.code yX7_item cX7_item 6 (some .int) ∈ mm_TB := mm_tb (mm_t6 (List.mem_of_getElem? (i := 45) rfl)) rfl
theorem wl_X7_323 : Cond.methodLink RX7 323 yX7_lacksRow ∈ mm_TB := mm_tb (mm_t6 (List.mem_of_getElem? (i := 46) rfl)) rfl
theorem wi_X7_lacksRow : Cond.instanceMethod yX7_lacksRow ∈ mm_TB := mm_tb (mm_t6 (List.mem_of_getElem? (i := 48) rfl)) rfl
theorem wc_X7_lacksRow : Cond.code yX7_lacksRow cX7_lacksRow 5 (some .int) ∈ mm_TB := mm_tb (mm_t6 (List.mem_of_getElem? (i := 49) rfl)) rfl
theorem wl_X7_326 : Cond.methodLink RX7 326 yX7_asLane ∈ mm_TB := mm_tb (mm_t6 (List.mem_of_getElem? (i := 50) rfl)) rfl
theorem wt_X7_asLane : Cond.static yX7_asLane ∈ mm_TB := mm_tb (mm_t6 (List.mem_of_getElem? (i := 51) rfl)) rfl
theorem wc_X7_asLane : Cond.code yX7_asLane cX7_asLane 2 (some .int) ∈ mm_TB := mm_tb (mm_t6 (List.mem_of_getElem? (i := 52) rfl)) rfl
theorem wl_L_129 : Cond.methodLink RL 129 yX7_crowd ∈ mm_TB := mm_tb (mm_t6 (List.mem_of_getElem? (i := 53) rfl)) rfl
theorem wi_X7_crowd : Cond.instanceMethod yX7_crowd ∈ mm_TB := mm_tb (mm_t6 (List.mem_of_getElem? (i := 54) rfl)) rfl
theorem ws_X7_crowd : Cond.selects RX7 yX7_crowd yX7_crowd ∈ mm_TB := mm_tb (mm_t6 (List.mem_of_getElem? (i := 55) rfl)) rfl
theorem wc_X7_crowd : Cond.code yX7_crowd cX7_crowd 9 (some .int) ∈ mm_TB := mm_tb (mm_t6 (List.mem_of_getElem? (i := 56) rfl)) rfl
theorem wl_L_145 : Cond.methodLink RL 145 yX7_film ∈ mm_TB := mm_tb (mm_t6 (List.mem_of_getElem? (i := 57) rfl)) rfl
theorem wi_X7_film : Cond.instanceMethod yX7_film ∈ mm_TB := mm_tb (mm_t6 (List.mem_of_getElem? (i := 58) rfl)) rfl
theorem ws_X7_film : Cond.selects RX7 yX7_film yX7_film ∈ mm_TB := mm_tb (mm_t6 (List.mem_of_getElem? (i := 59) rfl)) rfl
theorem wc_X7_film : Cond.code yX7_film cX7_film 6 (some .int) ∈ mm_TB := mm_tb (mm_t6 (List.mem_of_getElem? (i := 60) rfl)) rfl
theorem wk_L_45 : Cond.constantLong RL 45 (4294967295) ∈ mm_TB := mm_tb (mm_t6 (List.mem_of_getElem? (i := 61) rfl)) rfl
theorem wf_J0_15 : Cond.fieldLink RJ0 15 "java/lang/String" "coder" "B" ∈ mm_TB := mm_tb (mm_t6 (List.mem_of_getElem? (i := 62) rfl)) rfl
theorem wf_J0_9 : Cond.fieldLink RJ0 9 "java/lang/String" "value" "[B" ∈ mm_TB := mm_tb (mm_t6 (List.mem_of_getElem? (i := 63) rfl)) rfl
theorem ws_X4_peek : Cond.selects RX4 yX4_peek yX4_peek ∈ mm_TB := mm_tb (mm_p1 (List.mem_of_getElem? (i := 0) rfl)) rfl
theorem ws_X4_readNumber : Cond.selects RX4 yX4_readNumber yX4_readNumber ∈ mm_TB := mm_tb (mm_p1 (List.mem_of_getElem? (i := 1) rfl)) rfl
theorem ws_X4_fault : Cond.selects RX4 yX4_fault yX4_fault ∈ mm_TB := mm_tb (mm_p1 (List.mem_of_getElem? (i := 2) rfl)) rfl
theorem ws_X4_readPerson : Cond.selects RX4 yX4_readPerson yX4_readPerson ∈ mm_TB := mm_tb (mm_p1 (List.mem_of_getElem? (i := 3) rfl)) rfl
theorem ws_X4_readLetter : Cond.selects RX4 yX4_readLetter yX4_readLetter ∈ mm_TB := mm_tb (mm_p1 (List.mem_of_getElem? (i := 4) rfl)) rfl
theorem ws_X4_readTrips : Cond.selects RX4 yX4_readTrips yX4_readTrips ∈ mm_TB := mm_tb (mm_p1 (List.mem_of_getElem? (i := 5) rfl)) rfl
theorem ws_X6_enlistAll : Cond.selects RX6 yX6_enlistAll yX6_enlistAll ∈ mm_TB := mm_tb (mm_p1 (List.mem_of_getElem? (i := 6) rfl)) rfl
theorem ws_X0_loadBridge : Cond.selects RX0 yX0_loadBridge yX0_loadBridge ∈ mm_TB := mm_tb (mm_p1 (List.mem_of_getElem? (i := 7) rfl)) rfl
theorem ws_X0_loadWalker : Cond.selects RX0 yX0_loadWalker yX0_loadWalker ∈ mm_TB := mm_tb (mm_p1 (List.mem_of_getElem? (i := 8) rfl)) rfl
theorem ws_X0_begin : Cond.selects RX0 yX0_begin yX0_begin ∈ mm_TB := mm_tb (mm_p1 (List.mem_of_getElem? (i := 9) rfl)) rfl
theorem ws_X0_haveNight : Cond.selects RX0 yX0_haveNight yX0_haveNight ∈ mm_TB := mm_tb (mm_p1 (List.mem_of_getElem? (i := 10) rfl)) rfl
theorem ws_X0_walk : Cond.selects RX0 yX0_walk yX0_walk ∈ mm_TB := mm_tb (mm_p1 (List.mem_of_getElem? (i := 11) rfl)) rfl
theorem ws_X0_stepOff : Cond.selects RX0 yX0_stepOff yX0_stepOff ∈ mm_TB := mm_tb (mm_p1 (List.mem_of_getElem? (i := 12) rfl)) rfl
theorem ws_X0_stepOffFrom : Cond.selects RX0 yX0_stepOffFrom yX0_stepOffFrom ∈ mm_TB := mm_tb (mm_p1 (List.mem_of_getElem? (i := 13) rfl)) rfl
theorem ws_X0_isHeldBack : Cond.selects RX0 yX0_isHeldBack yX0_isHeldBack ∈ mm_TB := mm_tb (mm_p1 (List.mem_of_getElem? (i := 14) rfl)) rfl
theorem ws_X0_countOf : Cond.selects RX0 yX0_countOf yX0_countOf ∈ mm_TB := mm_tb (mm_p1 (List.mem_of_getElem? (i := 15) rfl)) rfl
theorem ws_X0_comeByFord : Cond.selects RX0 yX0_comeByFord yX0_comeByFord ∈ mm_TB := mm_tb (mm_p2 (List.mem_of_getElem? (i := 0) rfl)) rfl
theorem ws_X0_start : Cond.selects RX0 yX0_start yX0_start ∈ mm_TB := mm_tb (mm_p2 (List.mem_of_getElem? (i := 1) rfl)) rfl
theorem ws_X0_takeRope : Cond.selects RX0 yX0_takeRope yX0_takeRope ∈ mm_TB := mm_tb (mm_p2 (List.mem_of_getElem? (i := 2) rfl)) rfl
theorem ws_X0_quietAfter : Cond.selects RX0 yX0_quietAfter yX0_quietAfter ∈ mm_TB := mm_tb (mm_p2 (List.mem_of_getElem? (i := 3) rfl)) rfl
theorem ws_X1_begin : Cond.selects RX1 yX1_begin yX1_begin ∈ mm_TB := mm_tb (mm_p2 (List.mem_of_getElem? (i := 4) rfl)) rfl
theorem ws_X1_companyOf : Cond.selects RX1 yX1_companyOf yX1_companyOf ∈ mm_TB := mm_tb (mm_p2 (List.mem_of_getElem? (i := 5) rfl)) rfl
theorem ws_X1_keepIfBetter : Cond.selects RX1 yX1_keepIfBetter yX1_keepIfBetter ∈ mm_TB := mm_tb (mm_p2 (List.mem_of_getElem? (i := 6) rfl)) rfl
theorem ws_X1_makeNextCompanies : Cond.selects RX1 yX1_makeNextCompanies yX1_makeNextCompanies ∈ mm_TB := mm_tb (mm_p2 (List.mem_of_getElem? (i := 7) rfl)) rfl
theorem ws_X1_mostAhead : Cond.selects RX1 yX1_mostAhead yX1_mostAhead ∈ mm_TB := mm_tb (mm_p2 (List.mem_of_getElem? (i := 8) rfl)) rfl
theorem ws_X1_makeNextRow : Cond.selects RX1 yX1_makeNextRow yX1_makeNextRow ∈ mm_TB := mm_tb (mm_p2 (List.mem_of_getElem? (i := 9) rfl)) rfl
theorem ws_X1_swap : Cond.selects RX1 yX1_swap yX1_swap ∈ mm_TB := mm_tb (mm_p2 (List.mem_of_getElem? (i := 10) rfl)) rfl
theorem ws_X6_sumIfHeld : Cond.selects RX6 yX6_sumIfHeld yX6_sumIfHeld ∈ mm_TB := mm_tb (mm_p2 (List.mem_of_getElem? (i := 11) rfl)) rfl
theorem ws_X6_refusedRow : Cond.selects RX6 yX6_refusedRow yX6_refusedRow ∈ mm_TB := mm_tb (mm_p2 (List.mem_of_getElem? (i := 12) rfl)) rfl
theorem ws_X7_add : Cond.selects RX7 yX7_add yX7_add ∈ mm_TB := mm_tb (mm_p2 (List.mem_of_getElem? (i := 13) rfl)) rfl
theorem ws_X7_isPerson : Cond.selects RX7 yX7_isPerson yX7_isPerson ∈ mm_TB := mm_tb (mm_p2 (List.mem_of_getElem? (i := 14) rfl)) rfl
theorem ws_X7_paceOf : Cond.selects RX7 yX7_paceOf yX7_paceOf ∈ mm_TB := mm_tb (mm_p2 (List.mem_of_getElem? (i := 15) rfl)) rfl
theorem ws_X7_readLaws : Cond.selects RX7 yX7_readLaws yX7_readLaws ∈ mm_TB := mm_tb (mm_p3 (List.mem_of_getElem? (i := 0) rfl)) rfl
theorem ws_X7_nextByte : Cond.selects RX7 yX7_nextByte yX7_nextByte ∈ mm_TB := mm_tb (mm_p3 (List.mem_of_getElem? (i := 1) rfl)) rfl
theorem ws_X7_readNumber : Cond.selects RX7 yX7_readNumber yX7_readNumber ∈ mm_TB := mm_tb (mm_p3 (List.mem_of_getElem? (i := 2) rfl)) rfl
theorem ws_X7_readPeople : Cond.selects RX7 yX7_readPeople yX7_readPeople ∈ mm_TB := mm_tb (mm_p3 (List.mem_of_getElem? (i := 3) rfl)) rfl
theorem ws_X7_readPerson : Cond.selects RX7 yX7_readPerson yX7_readPerson ∈ mm_TB := mm_tb (mm_p3 (List.mem_of_getElem? (i := 4) rfl)) rfl
theorem ws_X7_addRead : Cond.selects RX7 yX7_addRead yX7_addRead ∈ mm_TB := mm_tb (mm_p3 (List.mem_of_getElem? (i := 5) rfl)) rfl
theorem ws_X7_goAll : Cond.selects RX7 yX7_goAll yX7_goAll ∈ mm_TB := mm_tb (mm_p3 (List.mem_of_getElem? (i := 6) rfl)) rfl
theorem ws_X7_begin : Cond.selects RX7 yX7_begin yX7_begin ∈ mm_TB := mm_tb (mm_p3 (List.mem_of_getElem? (i := 7) rfl)) rfl
theorem ws_X7_goTo : Cond.selects RX7 yX7_goTo yX7_goTo ∈ mm_TB := mm_tb (mm_p3 (List.mem_of_getElem? (i := 8) rfl)) rfl
theorem ws_X7_goOn : Cond.selects RX7 yX7_goOn yX7_goOn ∈ mm_TB := mm_tb (mm_p3 (List.mem_of_getElem? (i := 9) rfl)) rfl
theorem ws_X7_stepOff : Cond.selects RX7 yX7_stepOff yX7_stepOff ∈ mm_TB := mm_tb (mm_p3 (List.mem_of_getElem? (i := 10) rfl)) rfl
theorem ws_X7_mustWait : Cond.selects RX7 yX7_mustWait yX7_mustWait ∈ mm_TB := mm_tb (mm_p3 (List.mem_of_getElem? (i := 11) rfl)) rfl
theorem ws_X7_countsAt : Cond.selects RX7 yX7_countsAt yX7_countsAt ∈ mm_TB := mm_tb (mm_p3 (List.mem_of_getElem? (i := 12) rfl)) rfl
theorem ws_X7_comeOver : Cond.selects RX7 yX7_comeOver yX7_comeOver ∈ mm_TB := mm_tb (mm_p3 (List.mem_of_getElem? (i := 13) rfl)) rfl
theorem ws_X7_grow : Cond.selects RX7 yX7_grow yX7_grow ∈ mm_TB := mm_tb (mm_p3 (List.mem_of_getElem? (i := 14) rfl)) rfl
theorem ws_X7_startAll : Cond.selects RX7 yX7_startAll yX7_startAll ∈ mm_TB := mm_tb (mm_p3 (List.mem_of_getElem? (i := 15) rfl)) rfl
theorem ws_X7_start : Cond.selects RX7 yX7_start yX7_start ∈ mm_TB := mm_tb (mm_p4 (List.mem_of_getElem? (i := 0) rfl)) rfl
theorem ws_X7_wetOf : Cond.selects RX7 yX7_wetOf yX7_wetOf ∈ mm_TB := mm_tb (mm_p4 (List.mem_of_getElem? (i := 1) rfl)) rfl
theorem ws_X7_sumOver : Cond.selects RX7 yX7_sumOver yX7_sumOver ∈ mm_TB := mm_tb (mm_p4 (List.mem_of_getElem? (i := 2) rfl)) rfl
theorem ws_X7_lastOver : Cond.selects RX7 yX7_lastOver yX7_lastOver ∈ mm_TB := mm_tb (mm_p4 (List.mem_of_getElem? (i := 3) rfl)) rfl
theorem ws_X7_takeSome : Cond.selects RX7 yX7_takeSome yX7_takeSome ∈ mm_TB := mm_tb (mm_p4 (List.mem_of_getElem? (i := 4) rfl)) rfl
theorem ws_X7_goCompanies : Cond.selects RX7 yX7_goCompanies yX7_goCompanies ∈ mm_TB := mm_tb (mm_p4 (List.mem_of_getElem? (i := 5) rfl)) rfl
theorem ws_X7_beginSome : Cond.selects RX7 yX7_beginSome yX7_beginSome ∈ mm_TB := mm_tb (mm_p4 (List.mem_of_getElem? (i := 6) rfl)) rfl
theorem ws_X7_goSome : Cond.selects RX7 yX7_goSome yX7_goSome ∈ mm_TB := mm_tb (mm_p4 (List.mem_of_getElem? (i := 7) rfl)) rfl
theorem ws_X7_isSpiting : Cond.selects RX7 yX7_isSpiting yX7_isSpiting ∈ mm_TB := mm_tb (mm_p4 (List.mem_of_getElem? (i := 8) rfl)) rfl
theorem ws_X7_judge : Cond.selects RX7 yX7_judge yX7_judge ∈ mm_TB := mm_tb (mm_p4 (List.mem_of_getElem? (i := 9) rfl)) rfl
theorem ws_X7_nextRow : Cond.selects RX7 yX7_nextRow yX7_nextRow ∈ mm_TB := mm_tb (mm_p4 (List.mem_of_getElem? (i := 10) rfl)) rfl
theorem ws_X7_goOrder : Cond.selects RX7 yX7_goOrder yX7_goOrder ∈ mm_TB := mm_tb (mm_p4 (List.mem_of_getElem? (i := 11) rfl)) rfl
theorem ws_X7_nextOrder : Cond.selects RX7 yX7_nextOrder yX7_nextOrder ∈ mm_TB := mm_tb (mm_p4 (List.mem_of_getElem? (i := 12) rfl)) rfl
theorem ws_X7_sumIf : Cond.selects RX7 yX7_sumIf yX7_sumIf ∈ mm_TB := mm_tb (mm_p4 (List.mem_of_getElem? (i := 13) rfl)) rfl
theorem ws_X7_lacksRow : Cond.selects RX7 yX7_lacksRow yX7_lacksRow ∈ mm_TB := mm_tb (mm_p4 (List.mem_of_getElem? (i := 14) rfl)) rfl
theorem wy_X0_0 : u_lay RX0 TX0 0 ∈ mm_TB := mm_tb (mm_t1 (List.mem_of_getElem? (i := 184) rfl)) rfl
theorem wy_X0_1 : u_lay RX0 TX0 1 ∈ mm_TB := mm_tb (mm_t1 (List.mem_of_getElem? (i := 186) rfl)) rfl
theorem wy_X0_2 : u_lay RX0 TX0 2 ∈ mm_TB := mm_tb (mm_t1 (List.mem_of_getElem? (i := 188) rfl)) rfl
theorem wy_X0_3 : u_lay RX0 TX0 3 ∈ mm_TB := mm_tb (mm_t1 (List.mem_of_getElem? (i := 190) rfl)) rfl
theorem wy_X0_4 : u_lay RX0 TX0 4 ∈ mm_TB := mm_tb (mm_t1 (List.mem_of_getElem? (i := 192) rfl)) rfl
theorem wy_X0_5 : u_lay RX0 TX0 5 ∈ mm_TB := mm_tb (mm_t1 (List.mem_of_getElem? (i := 194) rfl)) rfl
theorem wy_X0_6 : u_lay RX0 TX0 6 ∈ mm_TB := mm_tb (mm_t1 (List.mem_of_getElem? (i := 196) rfl)) rfl
theorem wy_X0_7 : u_lay RX0 TX0 7 ∈ mm_TB := mm_tb (mm_t1 (List.mem_of_getElem? (i := 198) rfl)) rfl
theorem wy_X0_8 : u_lay RX0 TX0 8 ∈ mm_TB := mm_tb (mm_t1 (List.mem_of_getElem? (i := 200) rfl)) rfl
theorem wY_X0 : ∀ w ∈ u_ws RX0 TX0 9, w ∈ mm_TB := by
  intro w h
  obtain ⟨k, hk, rfl⟩ := List.mem_map.mp h
  have hk := List.mem_range.mp hk
  match k, hk with
  | 0, _ => exact wy_X0_0
  | 1, _ => exact wy_X0_1
  | 2, _ => exact wy_X0_2
  | 3, _ => exact wy_X0_3
  | 4, _ => exact wy_X0_4
  | 5, _ => exact wy_X0_5
  | 6, _ => exact wy_X0_6
  | 7, _ => exact wy_X0_7
  | 8, _ => exact wy_X0_8
  | j + 9, h9 => exact absurd h9 (by omega)
theorem wy_X1_0 : u_lay RX1 TX1 0 ∈ mm_TB := mm_tb (mm_t1 (List.mem_of_getElem? (i := 217) rfl)) rfl
theorem wy_X1_1 : u_lay RX1 TX1 1 ∈ mm_TB := mm_tb (mm_t1 (List.mem_of_getElem? (i := 219) rfl)) rfl
theorem wy_X1_2 : u_lay RX1 TX1 2 ∈ mm_TB := mm_tb (mm_t1 (List.mem_of_getElem? (i := 221) rfl)) rfl
theorem wy_X1_3 : u_lay RX1 TX1 3 ∈ mm_TB := mm_tb (mm_t1 (List.mem_of_getElem? (i := 223) rfl)) rfl
theorem wy_X1_4 : u_lay RX1 TX1 4 ∈ mm_TB := mm_tb (mm_t1 (List.mem_of_getElem? (i := 225) rfl)) rfl
theorem wy_X1_5 : u_lay RX1 TX1 5 ∈ mm_TB := mm_tb (mm_t1 (List.mem_of_getElem? (i := 227) rfl)) rfl
theorem wY_X1 : ∀ w ∈ u_ws RX1 TX1 6, w ∈ mm_TB := by
  intro w h
  obtain ⟨k, hk, rfl⟩ := List.mem_map.mp h
  have hk := List.mem_range.mp hk
  match k, hk with
  | 0, _ => exact wy_X1_0
  | 1, _ => exact wy_X1_1
  | 2, _ => exact wy_X1_2
  | 3, _ => exact wy_X1_3
  | 4, _ => exact wy_X1_4
  | 5, _ => exact wy_X1_5
  | j + 6, h9 => exact absurd h9 (by omega)
theorem wy_X2_0 : u_lay RX2 TX2 0 ∈ mm_TB := mm_tb (mm_t2 (List.mem_of_getElem? (i := 3) rfl)) rfl
theorem wy_X2_1 : u_lay RX2 TX2 1 ∈ mm_TB := mm_tb (mm_t2 (List.mem_of_getElem? (i := 5) rfl)) rfl
theorem wy_X2_2 : u_lay RX2 TX2 2 ∈ mm_TB := mm_tb (mm_t2 (List.mem_of_getElem? (i := 7) rfl)) rfl
theorem wY_X2 : ∀ w ∈ u_ws RX2 TX2 3, w ∈ mm_TB := by
  intro w h
  obtain ⟨k, hk, rfl⟩ := List.mem_map.mp h
  have hk := List.mem_range.mp hk
  match k, hk with
  | 0, _ => exact wy_X2_0
  | 1, _ => exact wy_X2_1
  | 2, _ => exact wy_X2_2
  | j + 3, h9 => exact absurd h9 (by omega)
theorem wy_X3_0 : u_lay RX3 TX3 0 ∈ mm_TB := mm_tb (mm_t1 (List.mem_of_getElem? (i := 50) rfl)) rfl
theorem wy_X3_1 : u_lay RX3 TX3 1 ∈ mm_TB := mm_tb (mm_t1 (List.mem_of_getElem? (i := 52) rfl)) rfl
theorem wy_X3_2 : u_lay RX3 TX3 2 ∈ mm_TB := mm_tb (mm_t1 (List.mem_of_getElem? (i := 54) rfl)) rfl
theorem wy_X3_3 : u_lay RX3 TX3 3 ∈ mm_TB := mm_tb (mm_t1 (List.mem_of_getElem? (i := 56) rfl)) rfl
theorem wY_X3 : ∀ w ∈ u_ws RX3 TX3 4, w ∈ mm_TB := by
  intro w h
  obtain ⟨k, hk, rfl⟩ := List.mem_map.mp h
  have hk := List.mem_range.mp hk
  match k, hk with
  | 0, _ => exact wy_X3_0
  | 1, _ => exact wy_X3_1
  | 2, _ => exact wy_X3_2
  | 3, _ => exact wy_X3_3
  | j + 4, h9 => exact absurd h9 (by omega)
theorem wy_X4_0 : u_lay RX4 TX4 0 ∈ mm_TB := mm_tb (mm_t1 (List.mem_of_getElem? (i := 70) rfl)) rfl
theorem wy_X4_1 : u_lay RX4 TX4 1 ∈ mm_TB := mm_tb (mm_t1 (List.mem_of_getElem? (i := 72) rfl)) rfl
theorem wy_X4_2 : u_lay RX4 TX4 2 ∈ mm_TB := mm_tb (mm_t1 (List.mem_of_getElem? (i := 74) rfl)) rfl
theorem wY_X4 : ∀ w ∈ u_ws RX4 TX4 3, w ∈ mm_TB := by
  intro w h
  obtain ⟨k, hk, rfl⟩ := List.mem_map.mp h
  have hk := List.mem_range.mp hk
  match k, hk with
  | 0, _ => exact wy_X4_0
  | 1, _ => exact wy_X4_1
  | 2, _ => exact wy_X4_2
  | j + 3, h9 => exact absurd h9 (by omega)
theorem wy_X5_0 : u_lay RX5 TX5 0 ∈ mm_TB := mm_tb (mm_t1 (List.mem_of_getElem? (i := 131) rfl)) rfl
theorem wy_X5_1 : u_lay RX5 TX5 1 ∈ mm_TB := mm_tb (mm_t1 (List.mem_of_getElem? (i := 133) rfl)) rfl
theorem wy_X5_2 : u_lay RX5 TX5 2 ∈ mm_TB := mm_tb (mm_t1 (List.mem_of_getElem? (i := 135) rfl)) rfl
theorem wy_X5_3 : u_lay RX5 TX5 3 ∈ mm_TB := mm_tb (mm_t1 (List.mem_of_getElem? (i := 137) rfl)) rfl
theorem wy_X5_4 : u_lay RX5 TX5 4 ∈ mm_TB := mm_tb (mm_t1 (List.mem_of_getElem? (i := 139) rfl)) rfl
theorem wy_X5_5 : u_lay RX5 TX5 5 ∈ mm_TB := mm_tb (mm_t1 (List.mem_of_getElem? (i := 141) rfl)) rfl
theorem wy_X5_6 : u_lay RX5 TX5 6 ∈ mm_TB := mm_tb (mm_t1 (List.mem_of_getElem? (i := 143) rfl)) rfl
theorem wy_X5_7 : u_lay RX5 TX5 7 ∈ mm_TB := mm_tb (mm_t1 (List.mem_of_getElem? (i := 145) rfl)) rfl
theorem wy_X5_8 : u_lay RX5 TX5 8 ∈ mm_TB := mm_tb (mm_t1 (List.mem_of_getElem? (i := 147) rfl)) rfl
theorem wy_X5_9 : u_lay RX5 TX5 9 ∈ mm_TB := mm_tb (mm_t1 (List.mem_of_getElem? (i := 149) rfl)) rfl
theorem wy_X5_10 : u_lay RX5 TX5 10 ∈ mm_TB := mm_tb (mm_t1 (List.mem_of_getElem? (i := 151) rfl)) rfl
theorem wy_X5_11 : u_lay RX5 TX5 11 ∈ mm_TB := mm_tb (mm_t1 (List.mem_of_getElem? (i := 153) rfl)) rfl
theorem wy_X5_12 : u_lay RX5 TX5 12 ∈ mm_TB := mm_tb (mm_t1 (List.mem_of_getElem? (i := 155) rfl)) rfl
theorem wy_X5_13 : u_lay RX5 TX5 13 ∈ mm_TB := mm_tb (mm_t1 (List.mem_of_getElem? (i := 157) rfl)) rfl
theorem wy_X5_14 : u_lay RX5 TX5 14 ∈ mm_TB := mm_tb (mm_t1 (List.mem_of_getElem? (i := 159) rfl)) rfl
theorem wy_X5_15 : u_lay RX5 TX5 15 ∈ mm_TB := mm_tb (mm_t1 (List.mem_of_getElem? (i := 161) rfl)) rfl
theorem wy_X5_16 : u_lay RX5 TX5 16 ∈ mm_TB := mm_tb (mm_t1 (List.mem_of_getElem? (i := 163) rfl)) rfl
theorem wy_X5_17 : u_lay RX5 TX5 17 ∈ mm_TB := mm_tb (mm_t1 (List.mem_of_getElem? (i := 165) rfl)) rfl
theorem wY_X5 : ∀ w ∈ u_ws RX5 TX5 18, w ∈ mm_TB := by
  intro w h
  obtain ⟨k, hk, rfl⟩ := List.mem_map.mp h
  have hk := List.mem_range.mp hk
  match k, hk with
  | 0, _ => exact wy_X5_0
  | 1, _ => exact wy_X5_1
  | 2, _ => exact wy_X5_2
  | 3, _ => exact wy_X5_3
  | 4, _ => exact wy_X5_4
  | 5, _ => exact wy_X5_5
  | 6, _ => exact wy_X5_6
  | 7, _ => exact wy_X5_7
  | 8, _ => exact wy_X5_8
  | 9, _ => exact wy_X5_9
  | 10, _ => exact wy_X5_10
  | 11, _ => exact wy_X5_11
  | 12, _ => exact wy_X5_12
  | 13, _ => exact wy_X5_13
  | 14, _ => exact wy_X5_14
  | 15, _ => exact wy_X5_15
  | 16, _ => exact wy_X5_16
  | 17, _ => exact wy_X5_17
  | j + 18, h9 => exact absurd h9 (by omega)
theorem wy_X6_0 : u_lay RX6 TX6 0 ∈ mm_TB := mm_tb (mm_t2 (List.mem_of_getElem? (i := 18) rfl)) rfl
theorem wy_X6_1 : u_lay RX6 TX6 1 ∈ mm_TB := mm_tb (mm_t2 (List.mem_of_getElem? (i := 20) rfl)) rfl
theorem wy_X6_2 : u_lay RX6 TX6 2 ∈ mm_TB := mm_tb (mm_t2 (List.mem_of_getElem? (i := 22) rfl)) rfl
theorem wy_X6_3 : u_lay RX6 TX6 3 ∈ mm_TB := mm_tb (mm_t2 (List.mem_of_getElem? (i := 24) rfl)) rfl
theorem wy_X6_4 : u_lay RX6 TX6 4 ∈ mm_TB := mm_tb (mm_t2 (List.mem_of_getElem? (i := 26) rfl)) rfl
theorem wy_X6_5 : u_lay RX6 TX6 5 ∈ mm_TB := mm_tb (mm_t2 (List.mem_of_getElem? (i := 28) rfl)) rfl
theorem wy_X6_6 : u_lay RX6 TX6 6 ∈ mm_TB := mm_tb (mm_t2 (List.mem_of_getElem? (i := 30) rfl)) rfl
theorem wy_X6_7 : u_lay RX6 TX6 7 ∈ mm_TB := mm_tb (mm_t2 (List.mem_of_getElem? (i := 32) rfl)) rfl
theorem wY_X6 : ∀ w ∈ u_ws RX6 TX6 8, w ∈ mm_TB := by
  intro w h
  obtain ⟨k, hk, rfl⟩ := List.mem_map.mp h
  have hk := List.mem_range.mp hk
  match k, hk with
  | 0, _ => exact wy_X6_0
  | 1, _ => exact wy_X6_1
  | 2, _ => exact wy_X6_2
  | 3, _ => exact wy_X6_3
  | 4, _ => exact wy_X6_4
  | 5, _ => exact wy_X6_5
  | 6, _ => exact wy_X6_6
  | 7, _ => exact wy_X6_7
  | j + 8, h9 => exact absurd h9 (by omega)
theorem wy_X7_0 : u_lay RX7 TX7 0 ∈ mm_TB := mm_tb (mm_t4 (List.mem_of_getElem? (i := 140) rfl)) rfl
theorem wy_X7_1 : u_lay RX7 TX7 1 ∈ mm_TB := mm_tb (mm_t4 (List.mem_of_getElem? (i := 142) rfl)) rfl
theorem wy_X7_2 : u_lay RX7 TX7 2 ∈ mm_TB := mm_tb (mm_t4 (List.mem_of_getElem? (i := 144) rfl)) rfl
theorem wy_X7_3 : u_lay RX7 TX7 3 ∈ mm_TB := mm_tb (mm_t4 (List.mem_of_getElem? (i := 146) rfl)) rfl
theorem wy_X7_4 : u_lay RX7 TX7 4 ∈ mm_TB := mm_tb (mm_t4 (List.mem_of_getElem? (i := 148) rfl)) rfl
theorem wy_X7_5 : u_lay RX7 TX7 5 ∈ mm_TB := mm_tb (mm_t4 (List.mem_of_getElem? (i := 150) rfl)) rfl
theorem wy_X7_6 : u_lay RX7 TX7 6 ∈ mm_TB := mm_tb (mm_t4 (List.mem_of_getElem? (i := 152) rfl)) rfl
theorem wy_X7_7 : u_lay RX7 TX7 7 ∈ mm_TB := mm_tb (mm_t4 (List.mem_of_getElem? (i := 154) rfl)) rfl
theorem wy_X7_8 : u_lay RX7 TX7 8 ∈ mm_TB := mm_tb (mm_t4 (List.mem_of_getElem? (i := 156) rfl)) rfl
theorem wy_X7_9 : u_lay RX7 TX7 9 ∈ mm_TB := mm_tb (mm_t4 (List.mem_of_getElem? (i := 158) rfl)) rfl
theorem wy_X7_10 : u_lay RX7 TX7 10 ∈ mm_TB := mm_tb (mm_t4 (List.mem_of_getElem? (i := 160) rfl)) rfl
theorem wy_X7_11 : u_lay RX7 TX7 11 ∈ mm_TB := mm_tb (mm_t4 (List.mem_of_getElem? (i := 162) rfl)) rfl
theorem wy_X7_12 : u_lay RX7 TX7 12 ∈ mm_TB := mm_tb (mm_t4 (List.mem_of_getElem? (i := 164) rfl)) rfl
theorem wy_X7_13 : u_lay RX7 TX7 13 ∈ mm_TB := mm_tb (mm_t4 (List.mem_of_getElem? (i := 166) rfl)) rfl
theorem wy_X7_14 : u_lay RX7 TX7 14 ∈ mm_TB := mm_tb (mm_t4 (List.mem_of_getElem? (i := 168) rfl)) rfl
theorem wy_X7_15 : u_lay RX7 TX7 15 ∈ mm_TB := mm_tb (mm_t4 (List.mem_of_getElem? (i := 170) rfl)) rfl
theorem wy_X7_16 : u_lay RX7 TX7 16 ∈ mm_TB := mm_tb (mm_t4 (List.mem_of_getElem? (i := 172) rfl)) rfl
theorem wy_X7_17 : u_lay RX7 TX7 17 ∈ mm_TB := mm_tb (mm_t4 (List.mem_of_getElem? (i := 174) rfl)) rfl
theorem wy_X7_18 : u_lay RX7 TX7 18 ∈ mm_TB := mm_tb (mm_t4 (List.mem_of_getElem? (i := 176) rfl)) rfl
theorem wy_X7_19 : u_lay RX7 TX7 19 ∈ mm_TB := mm_tb (mm_t4 (List.mem_of_getElem? (i := 178) rfl)) rfl
theorem wy_X7_20 : u_lay RX7 TX7 20 ∈ mm_TB := mm_tb (mm_t4 (List.mem_of_getElem? (i := 180) rfl)) rfl
theorem wy_X7_21 : u_lay RX7 TX7 21 ∈ mm_TB := mm_tb (mm_t4 (List.mem_of_getElem? (i := 182) rfl)) rfl
theorem wy_X7_22 : u_lay RX7 TX7 22 ∈ mm_TB := mm_tb (mm_t4 (List.mem_of_getElem? (i := 184) rfl)) rfl
theorem wy_X7_23 : u_lay RX7 TX7 23 ∈ mm_TB := mm_tb (mm_t4 (List.mem_of_getElem? (i := 186) rfl)) rfl
theorem wy_X7_24 : u_lay RX7 TX7 24 ∈ mm_TB := mm_tb (mm_t4 (List.mem_of_getElem? (i := 188) rfl)) rfl
theorem wy_X7_25 : u_lay RX7 TX7 25 ∈ mm_TB := mm_tb (mm_t4 (List.mem_of_getElem? (i := 190) rfl)) rfl
theorem wy_X7_26 : u_lay RX7 TX7 26 ∈ mm_TB := mm_tb (mm_t4 (List.mem_of_getElem? (i := 192) rfl)) rfl
theorem wy_X7_27 : u_lay RX7 TX7 27 ∈ mm_TB := mm_tb (mm_t4 (List.mem_of_getElem? (i := 194) rfl)) rfl
theorem wy_X7_28 : u_lay RX7 TX7 28 ∈ mm_TB := mm_tb (mm_t4 (List.mem_of_getElem? (i := 196) rfl)) rfl
theorem wy_X7_29 : u_lay RX7 TX7 29 ∈ mm_TB := mm_tb (mm_t4 (List.mem_of_getElem? (i := 198) rfl)) rfl
theorem wy_X7_30 : u_lay RX7 TX7 30 ∈ mm_TB := mm_tb (mm_t4 (List.mem_of_getElem? (i := 200) rfl)) rfl
theorem wy_X7_31 : u_lay RX7 TX7 31 ∈ mm_TB := mm_tb (mm_t4 (List.mem_of_getElem? (i := 202) rfl)) rfl
theorem wy_X7_32 : u_lay RX7 TX7 32 ∈ mm_TB := mm_tb (mm_t4 (List.mem_of_getElem? (i := 204) rfl)) rfl
theorem wy_X7_33 : u_lay RX7 TX7 33 ∈ mm_TB := mm_tb (mm_t4 (List.mem_of_getElem? (i := 206) rfl)) rfl
theorem wy_X7_34 : u_lay RX7 TX7 34 ∈ mm_TB := mm_tb (mm_t4 (List.mem_of_getElem? (i := 208) rfl)) rfl
theorem wy_X7_35 : u_lay RX7 TX7 35 ∈ mm_TB := mm_tb (mm_t4 (List.mem_of_getElem? (i := 210) rfl)) rfl
theorem wy_X7_36 : u_lay RX7 TX7 36 ∈ mm_TB := mm_tb (mm_t4 (List.mem_of_getElem? (i := 212) rfl)) rfl
theorem wy_X7_37 : u_lay RX7 TX7 37 ∈ mm_TB := mm_tb (mm_t4 (List.mem_of_getElem? (i := 214) rfl)) rfl
theorem wy_X7_38 : u_lay RX7 TX7 38 ∈ mm_TB := mm_tb (mm_t4 (List.mem_of_getElem? (i := 216) rfl)) rfl
theorem wy_X7_39 : u_lay RX7 TX7 39 ∈ mm_TB := mm_tb (mm_t4 (List.mem_of_getElem? (i := 218) rfl)) rfl
theorem wy_X7_40 : u_lay RX7 TX7 40 ∈ mm_TB := mm_tb (mm_t4 (List.mem_of_getElem? (i := 220) rfl)) rfl
theorem wy_X7_41 : u_lay RX7 TX7 41 ∈ mm_TB := mm_tb (mm_t4 (List.mem_of_getElem? (i := 222) rfl)) rfl
theorem wy_X7_42 : u_lay RX7 TX7 42 ∈ mm_TB := mm_tb (mm_t4 (List.mem_of_getElem? (i := 224) rfl)) rfl
theorem wY_X7 : ∀ w ∈ u_ws RX7 TX7 43, w ∈ mm_TB := by
  intro w h
  obtain ⟨k, hk, rfl⟩ := List.mem_map.mp h
  have hk := List.mem_range.mp hk
  match k, hk with
  | 0, _ => exact wy_X7_0
  | 1, _ => exact wy_X7_1
  | 2, _ => exact wy_X7_2
  | 3, _ => exact wy_X7_3
  | 4, _ => exact wy_X7_4
  | 5, _ => exact wy_X7_5
  | 6, _ => exact wy_X7_6
  | 7, _ => exact wy_X7_7
  | 8, _ => exact wy_X7_8
  | 9, _ => exact wy_X7_9
  | 10, _ => exact wy_X7_10
  | 11, _ => exact wy_X7_11
  | 12, _ => exact wy_X7_12
  | 13, _ => exact wy_X7_13
  | 14, _ => exact wy_X7_14
  | 15, _ => exact wy_X7_15
  | 16, _ => exact wy_X7_16
  | 17, _ => exact wy_X7_17
  | 18, _ => exact wy_X7_18
  | 19, _ => exact wy_X7_19
  | 20, _ => exact wy_X7_20
  | 21, _ => exact wy_X7_21
  | 22, _ => exact wy_X7_22
  | 23, _ => exact wy_X7_23
  | 24, _ => exact wy_X7_24
  | 25, _ => exact wy_X7_25
  | 26, _ => exact wy_X7_26
  | 27, _ => exact wy_X7_27
  | 28, _ => exact wy_X7_28
  | 29, _ => exact wy_X7_29
  | 30, _ => exact wy_X7_30
  | 31, _ => exact wy_X7_31
  | 32, _ => exact wy_X7_32
  | 33, _ => exact wy_X7_33
  | 34, _ => exact wy_X7_34
  | 35, _ => exact wy_X7_35
  | 36, _ => exact wy_X7_36
  | 37, _ => exact wy_X7_37
  | 38, _ => exact wy_X7_38
  | 39, _ => exact wy_X7_39
  | 40, _ => exact wy_X7_40
  | 41, _ => exact wy_X7_41
  | 42, _ => exact wy_X7_42
  | j + 43, h9 => exact absurd h9 (by omega)
