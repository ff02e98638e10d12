theorem gw_mk {i : Nat} {w : Cond} (h : lw_tbl[i]? = some w) (hg : goodWord w = true) : w ∈ gW := List.mem_filter.mpr ⟨List.mem_of_getElem? h, hg⟩
theorem nw_mk {i : Nat} {w : Cond} (h : lw_tbl[i]? = some w) (hg : isN w = true) : w ∈ nW := List.mem_filter.mpr ⟨List.mem_of_getElem? h, hg⟩
theorem ci_m1 : Int32.ofInt (-1) = (-1) := by decide
theorem ci_0 : Int32.ofInt (0) = 0 := by decide
theorem ci_1 : Int32.ofInt (1) = 1 := by decide
theorem ci_2 : Int32.ofInt (2) = 2 := by decide
theorem ci_3 : Int32.ofInt (3) = 3 := by decide
theorem ci_4 : Int32.ofInt (4) = 4 := by decide
theorem ci_5 : Int32.ofInt (5) = 5 := by decide
theorem cb_m9 : (Int8.ofInt (-9)).toInt32 = (-9) := by decide
theorem cb_m4 : (Int8.ofInt (-4)).toInt32 = (-4) := by decide
theorem cb_m3 : (Int8.ofInt (-3)).toInt32 = (-3) := by decide
theorem cb_m2 : (Int8.ofInt (-2)).toInt32 = (-2) := by decide
theorem cb_6 : (Int8.ofInt (6)).toInt32 = 6 := by decide
theorem cb_7 : (Int8.ofInt (7)).toInt32 = 7 := by decide
theorem cb_8 : (Int8.ofInt (8)).toInt32 = 8 := by decide
theorem cb_9 : (Int8.ofInt (9)).toInt32 = 9 := by decide
theorem cb_10 : (Int8.ofInt (10)).toInt32 = 10 := by decide
theorem cb_11 : (Int8.ofInt (11)).toInt32 = 11 := by decide
theorem cb_12 : (Int8.ofInt (12)).toInt32 = 12 := by decide
theorem cb_13 : (Int8.ofInt (13)).toInt32 = 13 := by decide
theorem cb_14 : (Int8.ofInt (14)).toInt32 = 14 := by decide
theorem cb_15 : (Int8.ofInt (15)).toInt32 = 15 := by decide
theorem cb_16 : (Int8.ofInt (16)).toInt32 = 16 := by decide
theorem cb_17 : (Int8.ofInt (17)).toInt32 = 17 := by decide
theorem cb_18 : (Int8.ofInt (18)).toInt32 = 18 := by decide
theorem cb_19 : (Int8.ofInt (19)).toInt32 = 19 := by decide
theorem cb_20 : (Int8.ofInt (20)).toInt32 = 20 := by decide
theorem cb_26 : (Int8.ofInt (26)).toInt32 = 26 := by decide
theorem cb_30 : (Int8.ofInt (30)).toInt32 = 30 := by decide
theorem cb_32 : (Int8.ofInt (32)).toInt32 = 32 := by decide
theorem cb_33 : (Int8.ofInt (33)).toInt32 = 33 := by decide
theorem cb_36 : (Int8.ofInt (36)).toInt32 = 36 := by decide
theorem cb_38 : (Int8.ofInt (38)).toInt32 = 38 := by decide
theorem cb_48 : (Int8.ofInt (48)).toInt32 = 48 := by decide
theorem cb_60 : (Int8.ofInt (60)).toInt32 = 60 := by decide
theorem cb_63 : (Int8.ofInt (63)).toInt32 = 63 := by decide
theorem cb_64 : (Int8.ofInt (64)).toInt32 = 64 := by decide
theorem cb_67 : (Int8.ofInt (67)).toInt32 = 67 := by decide
theorem cb_83 : (Int8.ofInt (83)).toInt32 = 83 := by decide
theorem cb_99 : (Int8.ofInt (99)).toInt32 = 99 := by decide
theorem cb_100 : (Int8.ofInt (100)).toInt32 = 100 := by decide
theorem cs_255 : (Int16.ofInt (255)).toInt32 = 255 := by decide
theorem cs_1023 : (Int16.ofInt (1023)).toInt32 = 1023 := by decide
theorem cl_0 : Int64.ofNat ((0 : Fin 2) : Nat) = 0 := by decide
theorem cl_1 : Int64.ofNat ((1 : Fin 2) : Nat) = 1 := by decide
theorem h18_0 : 0 < 18 := by decide
theorem h18_1 : 1 < 18 := by decide
theorem cn_J6_265 : Cond.constant RJ6 265 1431655765 ∈ gW := gw_mk (i := 484) (by decide +kernel) rfl
theorem cn_J6_266 : Cond.constant RJ6 266 858993459 ∈ gW := gw_mk (i := 485) (by decide +kernel) rfl
theorem cn_J6_267 : Cond.constant RJ6 267 252645135 ∈ gW := gw_mk (i := 486) (by decide +kernel) rfl
theorem cn_X10_57 : Cond.constantLong RX10 57 255 ∈ gW := gw_mk (i := 853) (by decide +kernel) rfl
theorem cn_X10_72 : Cond.constantLong RX10 72 9 ∈ gW := gw_mk (i := 877) (by decide +kernel) rfl
theorem cn_X10_102 : Cond.constantLong RX10 102 (-3) ∈ gW := gw_mk (i := 897) (by decide +kernel) rfl
theorem cn_X10_104 : Cond.constantLong RX10 104 3 ∈ gW := gw_mk (i := 898) (by decide +kernel) rfl
theorem cn_X10_123 : Cond.constantLong RX10 123 7 ∈ gW := gw_mk (i := 911) (by decide +kernel) rfl
theorem cn_X10_153 : Cond.constantLong RX10 153 60 ∈ gW := gw_mk (i := 975) (by decide +kernel) rfl
theorem cn_X10_175 : Cond.constantLong RX10 175 1000 ∈ gW := gw_mk (i := 1028) (by decide +kernel) rfl
theorem cn_X10_177 : Cond.constantLong RX10 177 4 ∈ gW := gw_mk (i := 1024) (by decide +kernel) rfl
theorem cn_X10_209 : Cond.constantLong RX10 209 10 ∈ gW := gw_mk (i := 1079) (by decide +kernel) rfl
theorem cn_X10_218 : Cond.constantLong RX10 218 30 ∈ gW := gw_mk (i := 1091) (by decide +kernel) rfl
theorem cn_X10_220 : Cond.constantLong RX10 220 6364136223846793005 ∈ gW := gw_mk (i := 1092) (by decide +kernel) rfl
theorem cn_X10_222 : Cond.constantLong RX10 222 1442695040888963407 ∈ gW := gw_mk (i := 1093) (by decide +kernel) rfl
theorem cn_X10_224 : Cond.constantLong RX10 224 28 ∈ gW := gw_mk (i := 1094) (by decide +kernel) rfl
theorem cn_X2_71 : Cond.constantLong RX2 71 1000 ∈ gW := gw_mk (i := 596) (by decide +kernel) rfl
theorem cn_X8_26 : Cond.constantLong RX8 26 6364136223846793005 ∈ gW := gw_mk (i := 717) (by decide +kernel) rfl
theorem cn_X8_28 : Cond.constantLong RX8 28 1442695040888963407 ∈ gW := gw_mk (i := 718) (by decide +kernel) rfl
theorem cn_X8_30 : Cond.constantLong RX8 30 28 ∈ gW := gw_mk (i := 719) (by decide +kernel) rfl
theorem cn_X9_249 : Cond.constantLong RX9 249 1000 ∈ gW := gw_mk (i := 590) (by decide +kernel) rfl
set_option maxRecDepth 20000 in
theorem ing_X0 : ∀ w ∈ u_ws RX0 TX0 3, w ∈ gW := fun w h => List.mem_filter.mpr ⟨inX0 w h, List.all_eq_true.mp (by decide +kernel : (u_ws RX0 TX0 3).all goodWord = true) w h⟩
set_option maxRecDepth 20000 in
theorem ing_X1 : ∀ w ∈ u_ws RX1 TX1 6, w ∈ gW := fun w h => List.mem_filter.mpr ⟨inX1 w h, List.all_eq_true.mp (by decide +kernel : (u_ws RX1 TX1 6).all goodWord = true) w h⟩
set_option maxRecDepth 20000 in
theorem ing_X2 : ∀ w ∈ u_ws RX2 TX2 4, w ∈ gW := fun w h => List.mem_filter.mpr ⟨inX2 w h, List.all_eq_true.mp (by decide +kernel : (u_ws RX2 TX2 4).all goodWord = true) w h⟩
set_option maxRecDepth 20000 in
theorem ing_X3 : ∀ w ∈ u_ws RX3 TX3 4, w ∈ gW := fun w h => List.mem_filter.mpr ⟨inX3 w h, List.all_eq_true.mp (by decide +kernel : (u_ws RX3 TX3 4).all goodWord = true) w h⟩
set_option maxRecDepth 20000 in
theorem ing_X4 : ∀ w ∈ u_ws RX4 TX4 4, w ∈ gW := fun w h => List.mem_filter.mpr ⟨inX4 w h, List.all_eq_true.mp (by decide +kernel : (u_ws RX4 TX4 4).all goodWord = true) w h⟩
set_option maxRecDepth 20000 in
theorem ing_X5 : ∀ w ∈ u_ws RX5 TX5 2, w ∈ gW := fun w h => List.mem_filter.mpr ⟨inX5 w h, List.all_eq_true.mp (by decide +kernel : (u_ws RX5 TX5 2).all goodWord = true) w h⟩
set_option maxRecDepth 20000 in
theorem ing_X6 : ∀ w ∈ u_ws RX6 TX6 2, w ∈ gW := fun w h => List.mem_filter.mpr ⟨inX6 w h, List.all_eq_true.mp (by decide +kernel : (u_ws RX6 TX6 2).all goodWord = true) w h⟩
set_option maxRecDepth 20000 in
theorem ing_X7 : ∀ w ∈ u_ws RX7 TX7 8, w ∈ gW := fun w h => List.mem_filter.mpr ⟨inX7 w h, List.all_eq_true.mp (by decide +kernel : (u_ws RX7 TX7 8).all goodWord = true) w h⟩
set_option maxRecDepth 20000 in
theorem ing_X8 : ∀ w ∈ u_ws RX8 TX8 3, w ∈ gW := fun w h => List.mem_filter.mpr ⟨inX8 w h, List.all_eq_true.mp (by decide +kernel : (u_ws RX8 TX8 3).all goodWord = true) w h⟩
set_option maxRecDepth 20000 in
theorem ing_X9 : ∀ w ∈ u_ws RX9 TX9 10, w ∈ gW := fun w h => List.mem_filter.mpr ⟨inX9 w h, List.all_eq_true.mp (by decide +kernel : (u_ws RX9 TX9 10).all goodWord = true) w h⟩
set_option maxRecDepth 20000 in
theorem ing_X10 : ∀ w ∈ u_ws RX10 TX10 25, w ∈ gW := fun w h => List.mem_filter.mpr ⟨inX10 w h, List.all_eq_true.mp (by decide +kernel : (u_ws RX10 TX10 25).all goodWord = true) w h⟩
theorem flds_st {g : GT} {M : Mem} {o : Nat} (h : o < 18) : flds g M o = [.ref (ga g 19 0), .ref (ga g o 1), .ref (ga g o 2), .ref (ga g o 3), .ref (ga g o 4), .int (M.1 o 0 5), .int (M.1 o 0 6), .int (M.1 o 0 7)] := if_pos h
theorem kd_st {o : Nat} (h : o < 18) : kd o = 7 := if_pos h
theorem rc_st {o : Nat} (h : o < 18) : (o, 0) ∈ idx ∧ vwCl[kd o]? = some (RX7, TX7, 8) := ⟨idx_st o h 0 (by decide), by rw [kd_st h]; rfl⟩
theorem rc_18 : (18, 0) ∈ idx ∧ vwCl[kd 18]? = some (RX5, TX5, 2) := ⟨by decide +kernel, rfl⟩
theorem rc_19 : (19, 0) ∈ idx ∧ vwCl[kd 19]? = some (RX4, TX4, 4) := ⟨by decide +kernel, rfl⟩
theorem rc_20 : (20, 0) ∈ idx ∧ vwCl[kd 20]? = some (RX9, TX9, 10) := ⟨by decide +kernel, rfl⟩
theorem rc_21 : (21, 0) ∈ idx ∧ vwCl[kd 21]? = some (RX0, TX0, 3) := ⟨by decide +kernel, rfl⟩
theorem rc_22 : (22, 0) ∈ idx ∧ vwCl[kd 22]? = some (RX6, TX6, 2) := ⟨by decide +kernel, rfl⟩
theorem rc_23 : (23, 0) ∈ idx ∧ vwCl[kd 23]? = some (RX3, TX3, 4) := ⟨by decide +kernel, rfl⟩
theorem rc_24 : (24, 0) ∈ idx ∧ vwCl[kd 24]? = some (RX2, TX2, 4) := ⟨by decide +kernel, rfl⟩
theorem rc_25 : (25, 0) ∈ idx ∧ vwCl[kd 25]? = some (RX1, TX1, 6) := ⟨by decide +kernel, rfl⟩
theorem rc_26 : (26, 0) ∈ idx ∧ vwCl[kd 26]? = some (RX8, TX8, 3) := ⟨by decide +kernel, rfl⟩
theorem rc_27 : (27, 0) ∈ idx ∧ vwCl[kd 27]? = some (RX10, TX10, 25) := ⟨by decide +kernel, rfl⟩
abbrev IA (o i n : Nat) : Prop := (o, i) ∈ idx ∧ isI o i = true ∧ ln o i = n
theorem ia_st {o i : Nat} (h : o < 18) (hi : 0 < i ∧ i < 5) : IA o i 6 := by
  refine ⟨idx_st o h i hi.2, ?_, if_pos h⟩
  have h1 : ¬ o = 21 := by omega
  have h2 : ¬ o = 22 := by omega
  have h3 : ¬ o = 27 := by omega
  have h4 : ¬ i = 0 := by omega
  simp [isI, h1, h2, h3, h4]
theorem ia_18_1 : IA 18 1 48 := by decide +kernel
theorem ia_19_1 : IA 19 1 6 := by decide +kernel
theorem ia_19_2 : IA 19 2 6 := by decide +kernel
theorem ia_19_3 : IA 19 3 6 := by decide +kernel
theorem ia_23_1 : IA 23 1 6 := by decide +kernel
theorem ia_23_2 : IA 23 2 6 := by decide +kernel
theorem ia_23_3 : IA 23 3 6 := by decide +kernel
theorem ia_24_1 : IA 24 1 61 := by decide +kernel
theorem ia_25_1 : IA 25 1 64 := by decide +kernel
theorem ia_25_2 : IA 25 2 36 := by decide +kernel
theorem ia_25_3 : IA 25 3 36 := by decide +kernel
theorem ia_27_4 : IA 27 4 40 := by decide +kernel
theorem ia_27_5 : IA 27 5 30 := by decide +kernel
theorem ia_27_6 : IA 27 6 48 := by decide +kernel
theorem ia_27_8 : IA 27 8 280 := by decide +kernel
theorem ia_27_9 : IA 27 9 61 := by decide +kernel
theorem ia_27_14 : IA 27 14 40 := by decide +kernel
theorem ia_27_1 : IA 27 1 6 := by decide +kernel
theorem ia_27_2 : IA 27 2 6 := by decide +kernel
theorem ia_27_3 : IA 27 3 6 := by decide +kernel
theorem ia_27_7 : IA 27 7 6 := by decide +kernel
theorem ia_27_10 : IA 27 10 6 := by decide +kernel
theorem ia_27_11 : IA 27 11 6 := by decide +kernel
theorem ia_27_12 : IA 27 12 6 := by decide +kernel
theorem sd_14 {x : Int32} (h : ¬ (x < 0 ∨ 14 ≤ x.toNatClampNeg)) : 2 + x.toNatClampNeg < 18 := by
  have : ¬ 14 ≤ x.toNatClampNeg := fun q => h (Or.inr q)
  omega
theorem sd_2 {x : Int32} (h : ¬ (x < 0 ∨ 2 ≤ x.toNatClampNeg)) : 16 + x.toNatClampNeg < 18 := by
  have : ¬ 2 ≤ x.toNatClampNeg := fun q => h (Or.inr q)
  omega
theorem sw_same {M : Mem} {o i k : Nat} {x : Int32} : (sw M o i k x).1 o i = upd (M.1 o i) k x := if_pos ⟨rfl, rfl⟩
theorem sr_same {M : Mem} {o i : Nat} {f : Nat → Int32} : (sr M o i f).1 o i = f := if_pos ⟨rfl, rfl⟩
theorem sw_2 {M : Mem} {o i k : Nat} {x : Int32} : (sw M o i k x).2 = M.2 := rfl
section KT
variable {g : GT} {X : XT} {cc : ByteArray} {own : String} {nL d pc : Nat} {lv : List (Option Value)} {st : List Value} {M : Mem}
theorem kj_ni2 {x e : Int32} {v : Value} (hx : x = e) (kk : Kj g X nL pc lv (v :: .int x :: st) M) : Kj g X nL pc lv (v :: .int e :: st) M := by subst hx; exact kk
theorem kj_iald2 (C : Cx g X cc own nL d) {o i n : Nat} {x : Int32} (ia : IA o i n) (hin : ¬ (x < 0 ∨ n ≤ x.toNatClampNeg)) (hd : decode cc pc = .ok (.iaload, 1)) (kk : Kj g X nL (pc + 1) lv (.int (M.1 o i x.toNatClampNeg) :: st) M) : Kj g X nL pc lv (.int x :: .ref (ga g o i) :: st) M := kj_iald C ia.1 ia.2.1 ia.2.2 hin hd kk
theorem kj_alen2 (C : Cx g X cc own nL d) {o i n : Nat} {v : Int32} (ia : IA o i n) (hv : Int32.ofNat n = v) (hd : decode cc pc = .ok (.arraylength, 1)) (kk : Kj g X nL (pc + 1) lv (.int v :: st) M) : Kj g X nL pc lv (.ref (ga g o i) :: st) M := kj_alen C ia.1 ia.2.1 ia.2.2 hv hd kk
theorem kj_iast2 (C : Cx g X cc own nL d) {o i n : Nat} {x y : Int32} (ia : IA o i n) (hin : ¬ (x < 0 ∨ n ≤ x.toNatClampNeg)) (hd : decode cc pc = .ok (.iastore, 1)) (kk : Kj g X nL (pc + 1) lv st (sw M o i x.toNatClampNeg y)) : Kj g X nL pc lv (.int y :: .int x :: .ref (ga g o i) :: st) M := kj_iast C ia.1 ia.2.1 ia.2.2 hin hd kk
theorem kj_faclen (C : Cx g X cc own nL d) (hd : decode cc pc = .ok (.arraylength, 1)) (kk : Kj g X nL (pc + 1) lv (.int 7 :: st) M) : Kj g X nL pc lv (.ref (gft g) :: st) M := fun H locs ls hP hS hl =>
  va_tlen C.1 C.2.1 C.2.2.2.2.2.1.2.2.2.2 hS (v := 7) rfl hd (kk H locs ls hP hS hl)
theorem jm_min : Cond.static Lib.Math.min.name ∈ gW ∧ Cond.initialized "java/lang/Math" ∈ gW ∧ Cond.code Lib.Math.min.name Lib.Math.min.code 2 (some .int) ∈ gW := ⟨gw_mk (i := 384) (by decide +kernel) rfl, gw_mk (i := 95) (by decide +kernel) rfl, gw_mk (i := 385) (by decide +kernel) rfl⟩
theorem jm_max : Cond.static Lib.Math.max.name ∈ gW ∧ Cond.initialized "java/lang/Math" ∈ gW ∧ Cond.code Lib.Math.max.name Lib.Math.max.code 2 (some .int) ∈ gW := ⟨gw_mk (i := 467) (by decide +kernel) rfl, gw_mk (i := 95) (by decide +kernel) rfl, gw_mk (i := 468) (by decide +kernel) rfl⟩
theorem jm_abs : Cond.static Lib.Math.abs.name ∈ gW ∧ Cond.initialized "java/lang/Math" ∈ gW ∧ Cond.code Lib.Math.abs.name Lib.Math.abs.code 1 (some .int) ∈ gW := ⟨gw_mk (i := 667) (by decide +kernel) rfl, gw_mk (i := 95) (by decide +kernel) rfl, gw_mk (i := 668) (by decide +kernel) rfl⟩
theorem jm_cpy : Cond.native arraycopyName ∈ gW ∧ Cond.static arraycopyName ∈ gW ∧ Cond.initialized "java/lang/System" ∈ gW := ⟨gw_mk (i := 396) (by decide +kernel) rfl, gw_mk (i := 395) (by decide +kernel) rfl, gw_mk (i := 96) (by decide +kernel) rfl⟩
theorem kj_mmin2 (C : Cx g X cc own nL (d + 1)) {index : Nat} (hlink : Cond.methodLink own index Lib.Math.min.name ∈ gW) (hst : (st.map fun v => v.category).sum ≤ 8) {x y : Int32} (hd : decode cc pc = .ok (.invokestatic index, 3)) (kk : Kj g X nL (pc + 3) lv (.int (if y < x then y else x) :: st) M) : Kj g X nL pc lv (.int y :: .int x :: st) M := kj_mmin C hlink jm_min.1 jm_min.2.1 jm_min.2.2 hst hd kk
theorem kj_mmax2 (C : Cx g X cc own nL (d + 1)) {index : Nat} (hlink : Cond.methodLink own index Lib.Math.max.name ∈ gW) (hst : (st.map fun v => v.category).sum ≤ 8) {x y : Int32} (hd : decode cc pc = .ok (.invokestatic index, 3)) (kk : Kj g X nL (pc + 3) lv (.int (if x < y then y else x) :: st) M) : Kj g X nL pc lv (.int y :: .int x :: st) M := kj_mmax C hlink jm_max.1 jm_max.2.1 jm_max.2.2 hst hd kk
theorem kj_mabs2 (C : Cx g X cc own nL (d + 1)) {index : Nat} (hlink : Cond.methodLink own index Lib.Math.abs.name ∈ gW) (hst : (st.map fun v => v.category).sum ≤ 8) {x : Int32} (hd : decode cc pc = .ok (.invokestatic index, 3)) (kk : Kj g X nL (pc + 3) lv (.int (if 0 ≤ x then x else 0 - x) :: st) M) : Kj g X nL pc lv (.int x :: st) M := kj_mabs C hlink jm_abs.1 jm_abs.2.1 jm_abs.2.2 hst hd kk
theorem kj_copy2 (C : Cx g X cc own nL (d + 2)) {index o i a b : Nat} (hlink : Cond.methodLink own index arraycopyName ∈ gW) (ia : IA o i 6) (ib : IA a b 6) (hst : (st.map fun v => v.category).sum ≤ 8) (hd : decode cc pc = .ok (.invokestatic index, 3)) (kk : Kj g X nL (pc + 3) lv st (sr M a b (va_cpy (M.1 o i) (M.1 a b) 0 0 6))) : Kj g X nL pc lv (.int 6 :: .int 0 :: .ref (ga g a b) :: .int 0 :: .ref (ga g o i) :: st) M := kj_copy C hlink jm_cpy.1 jm_cpy.2.1 jm_cpy.2.2 hst ia.1 ia.2.1 ia.2.2 ib.1 ib.2.1 ib.2.2 hd kk
theorem kj_callV1 (C : Cx g X cc own nL (d + 1)) {d' index mxL n o : Nat} {y : MethodName} {bytes : ByteArray} {ret : Option FieldType} {As rest : List Value} {w : Value} {M' : Mem} {q : vw_C} (hM : Ct g (xl X) d' y bytes mxL ret (.ref (ga g o 0) :: As) M (some w) M') (hdd : d' ≤ d) (mi : Mv y bytes mxL ret n) (hlk : Cond.methodLink own index y ∈ gW) (rc : (o, 0) ∈ idx ∧ vwCl[kd o]? = some q) (hq1 : q.1 = y.cls) (hn : As.length = n) (hst : st = As.reverse ++ .ref (ga g o 0) :: rest) (hcat : (rest.map fun v => v.category).sum ≤ 8) (hd : decode cc pc = .ok (.invokevirtual index, 3)) (kk : Kj g X nL (pc + 3) lv (w :: rest) M') : Kj g X nL pc lv st M := kj_callV C hM hdd mi hlk rc.1 rc.2 hq1 hn hst hcat hd kk
theorem kj_callV0 (C : Cx g X cc own nL (d + 1)) {d' index mxL n o : Nat} {y : MethodName} {bytes : ByteArray} {ret : Option FieldType} {As rest : List Value} {M' : Mem} {q : vw_C} (hM : Ct g (xl X) d' y bytes mxL ret (.ref (ga g o 0) :: As) M (none) M') (hdd : d' ≤ d) (mi : Mv y bytes mxL ret n) (hlk : Cond.methodLink own index y ∈ gW) (rc : (o, 0) ∈ idx ∧ vwCl[kd o]? = some q) (hq1 : q.1 = y.cls) (hn : As.length = n) (hst : st = As.reverse ++ .ref (ga g o 0) :: rest) (hcat : (rest.map fun v => v.category).sum ≤ 8) (hd : decode cc pc = .ok (.invokevirtual index, 3)) (kk : Kj g X nL (pc + 3) lv (rest) M') : Kj g X nL pc lv st M := kj_callV C hM hdd mi hlk rc.1 rc.2 hq1 hn hst hcat hd kk
theorem kj_callVN1 (C : Cx g X cc own nL (d + 1)) {d' index mxL n o : Nat} {y : MethodName} {host : String} {bytes : ByteArray} {ret : Option FieldType} {As rest : List Value} {w : Value} {M' : Mem} {q : vw_C} (hM : Ct g (xl X) d' y bytes mxL ret (.ref (ga g o 0) :: As) M (some w) M') (hdd : d' ≤ d) (mi : Mv y bytes mxL ret n) (hlk : Cond.methodLinkNest own index y host ∈ nW) (rc : (o, 0) ∈ idx ∧ vwCl[kd o]? = some q) (hq1 : q.1 = y.cls) (hn : As.length = n) (hst : st = As.reverse ++ .ref (ga g o 0) :: rest) (hcat : (rest.map fun v => v.category).sum ≤ 8) (hd : decode cc pc = .ok (.invokevirtual index, 3)) (kk : Kj g X nL (pc + 3) lv (w :: rest) M') : Kj g X nL pc lv st M := kj_callVN C hM hdd mi hlk rc.1 rc.2 hq1 hn hst hcat hd kk
theorem kj_callVN0 (C : Cx g X cc own nL (d + 1)) {d' index mxL n o : Nat} {y : MethodName} {host : String} {bytes : ByteArray} {ret : Option FieldType} {As rest : List Value} {M' : Mem} {q : vw_C} (hM : Ct g (xl X) d' y bytes mxL ret (.ref (ga g o 0) :: As) M (none) M') (hdd : d' ≤ d) (mi : Mv y bytes mxL ret n) (hlk : Cond.methodLinkNest own index y host ∈ nW) (rc : (o, 0) ∈ idx ∧ vwCl[kd o]? = some q) (hq1 : q.1 = y.cls) (hn : As.length = n) (hst : st = As.reverse ++ .ref (ga g o 0) :: rest) (hcat : (rest.map fun v => v.category).sum ≤ 8) (hd : decode cc pc = .ok (.invokevirtual index, 3)) (kk : Kj g X nL (pc + 3) lv (rest) M') : Kj g X nL pc lv st M := kj_callVN C hM hdd mi hlk rc.1 rc.2 hq1 hn hst hcat hd kk
theorem kj_callS1 (C : Cx g X cc own nL (d + 1)) {d' index mxL n : Nat} {y : MethodName} {bytes : ByteArray} {ret : Option FieldType} {As rest : List Value} {w : Value} {M' : Mem} (hM : Ct g (xl X) d' y bytes mxL ret As M (some w) M') (hdd : d' ≤ d) (mi : Ms y bytes mxL ret n) (hlk : Cond.methodLink own index y ∈ gW) (hn : As.length = n) (hst : st = As.reverse ++ rest) (hcat : (rest.map fun v => v.category).sum ≤ 8) (hd : decode cc pc = .ok (.invokestatic index, 3)) (kk : Kj g X nL (pc + 3) lv (w :: rest) M') : Kj g X nL pc lv st M := kj_callS C hM hdd mi hlk hn hst hcat hd kk
theorem kj_callS0 (C : Cx g X cc own nL (d + 1)) {d' index mxL n : Nat} {y : MethodName} {bytes : ByteArray} {ret : Option FieldType} {As rest : List Value} {M' : Mem} (hM : Ct g (xl X) d' y bytes mxL ret As M (none) M') (hdd : d' ≤ d) (mi : Ms y bytes mxL ret n) (hlk : Cond.methodLink own index y ∈ gW) (hn : As.length = n) (hst : st = As.reverse ++ rest) (hcat : (rest.map fun v => v.category).sum ≤ 8) (hd : decode cc pc = .ok (.invokestatic index, 3)) (kk : Kj g X nL (pc + 3) lv (rest) M') : Kj g X nL pc lv st M := kj_callS C hM hdd mi hlk hn hst hcat hd kk
theorem kj_callSN1 (C : Cx g X cc own nL (d + 1)) {d' index mxL n : Nat} {y : MethodName} {host : String} {bytes : ByteArray} {ret : Option FieldType} {As rest : List Value} {w : Value} {M' : Mem} (hM : Ct g (xl X) d' y bytes mxL ret As M (some w) M') (hdd : d' ≤ d) (mi : Ms y bytes mxL ret n) (hlk : Cond.methodLinkNest own index y host ∈ nW) (hn : As.length = n) (hst : st = As.reverse ++ rest) (hcat : (rest.map fun v => v.category).sum ≤ 8) (hd : decode cc pc = .ok (.invokestatic index, 3)) (kk : Kj g X nL (pc + 3) lv (w :: rest) M') : Kj g X nL pc lv st M := kj_callSN C hM hdd mi hlk hn hst hcat hd kk
theorem kj_callSN0 (C : Cx g X cc own nL (d + 1)) {d' index mxL n : Nat} {y : MethodName} {host : String} {bytes : ByteArray} {ret : Option FieldType} {As rest : List Value} {M' : Mem} (hM : Ct g (xl X) d' y bytes mxL ret As M (none) M') (hdd : d' ≤ d) (mi : Ms y bytes mxL ret n) (hlk : Cond.methodLinkNest own index y host ∈ nW) (hn : As.length = n) (hst : st = As.reverse ++ rest) (hcat : (rest.map fun v => v.category).sum ≤ 8) (hd : decode cc pc = .ok (.invokestatic index, 3)) (kk : Kj g X nL (pc + 3) lv (rest) M') : Kj g X nL pc lv st M := kj_callSN C hM hdd mi hlk hn hst hcat hd kk
theorem sn_1 {b1 : Option Value} {r : List (Option Value)} {j : Nat} {v : Value} (hj : (none :: r)[j]? = some (some v)) : (b1 :: r)[j]? = some (some v) := by
  match j, hj with
  | 0, hj => cases hj
  | j + 1, hj => exact hj
theorem sn_2 {a0 b1 : Option Value} {r : List (Option Value)} {j : Nat} {v : Value} (hj : (a0 :: none :: r)[j]? = some (some v)) : (a0 :: b1 :: r)[j]? = some (some v) := by
  match j, hj with
  | 0, hj => exact hj
  | 1, hj => cases hj
  | j + 2, hj => exact hj
theorem sn_3 {a0 a1 b1 : Option Value} {r : List (Option Value)} {j : Nat} {v : Value} (hj : (a0 :: a1 :: none :: r)[j]? = some (some v)) : (a0 :: a1 :: b1 :: r)[j]? = some (some v) := by
  match j, hj with
  | 0, hj => exact hj
  | 1, hj => exact hj
  | 2, hj => cases hj
  | j + 3, hj => exact hj
theorem sn_4 {a0 a1 a2 b1 : Option Value} {r : List (Option Value)} {j : Nat} {v : Value} (hj : (a0 :: a1 :: a2 :: none :: r)[j]? = some (some v)) : (a0 :: a1 :: a2 :: b1 :: r)[j]? = some (some v) := by
  match j, hj with
  | 0, hj => exact hj
  | 1, hj => exact hj
  | 2, hj => exact hj
  | 3, hj => cases hj
  | j + 4, hj => exact hj
theorem sn_5 {a0 a1 a2 a3 b1 : Option Value} {r : List (Option Value)} {j : Nat} {v : Value} (hj : (a0 :: a1 :: a2 :: a3 :: none :: r)[j]? = some (some v)) : (a0 :: a1 :: a2 :: a3 :: b1 :: r)[j]? = some (some v) := by
  match j, hj with
  | 0, hj => exact hj
  | 1, hj => exact hj
  | 2, hj => exact hj
  | 3, hj => exact hj
  | 4, hj => cases hj
  | j + 5, hj => exact hj
theorem sn_6 {a0 a1 a2 a3 a4 b1 : Option Value} {r : List (Option Value)} {j : Nat} {v : Value} (hj : (a0 :: a1 :: a2 :: a3 :: a4 :: none :: r)[j]? = some (some v)) : (a0 :: a1 :: a2 :: a3 :: a4 :: b1 :: r)[j]? = some (some v) := by
  match j, hj with
  | 0, hj => exact hj
  | 1, hj => exact hj
  | 2, hj => exact hj
  | 3, hj => exact hj
  | 4, hj => exact hj
  | 5, hj => cases hj
  | j + 6, hj => exact hj
theorem sn_7 {a0 a1 a2 a3 a4 a5 b1 : Option Value} {r : List (Option Value)} {j : Nat} {v : Value} (hj : (a0 :: a1 :: a2 :: a3 :: a4 :: a5 :: none :: r)[j]? = some (some v)) : (a0 :: a1 :: a2 :: a3 :: a4 :: a5 :: b1 :: r)[j]? = some (some v) := by
  match j, hj with
  | 0, hj => exact hj
  | 1, hj => exact hj
  | 2, hj => exact hj
  | 3, hj => exact hj
  | 4, hj => exact hj
  | 5, hj => exact hj
  | 6, hj => cases hj
  | j + 7, hj => exact hj
theorem sn_8 {a0 a1 a2 a3 a4 a5 a6 b1 : Option Value} {r : List (Option Value)} {j : Nat} {v : Value} (hj : (a0 :: a1 :: a2 :: a3 :: a4 :: a5 :: a6 :: none :: r)[j]? = some (some v)) : (a0 :: a1 :: a2 :: a3 :: a4 :: a5 :: a6 :: b1 :: r)[j]? = some (some v) := by
  match j, hj with
  | 0, hj => exact hj
  | 1, hj => exact hj
  | 2, hj => exact hj
  | 3, hj => exact hj
  | 4, hj => exact hj
  | 5, hj => exact hj
  | 6, hj => exact hj
  | 7, hj => cases hj
  | j + 8, hj => exact hj
theorem sn_9 {a0 a1 a2 a3 a4 a5 a6 a7 b1 : Option Value} {r : List (Option Value)} {j : Nat} {v : Value} (hj : (a0 :: a1 :: a2 :: a3 :: a4 :: a5 :: a6 :: a7 :: none :: r)[j]? = some (some v)) : (a0 :: a1 :: a2 :: a3 :: a4 :: a5 :: a6 :: a7 :: b1 :: r)[j]? = some (some v) := by
  match j, hj with
  | 0, hj => exact hj
  | 1, hj => exact hj
  | 2, hj => exact hj
  | 3, hj => exact hj
  | 4, hj => exact hj
  | 5, hj => exact hj
  | 6, hj => exact hj
  | 7, hj => exact hj
  | 8, hj => cases hj
  | j + 9, hj => exact hj
theorem sn_10 {a0 a1 a2 a3 a4 a5 a6 a7 a8 b1 : Option Value} {r : List (Option Value)} {j : Nat} {v : Value} (hj : (a0 :: a1 :: a2 :: a3 :: a4 :: a5 :: a6 :: a7 :: a8 :: none :: r)[j]? = some (some v)) : (a0 :: a1 :: a2 :: a3 :: a4 :: a5 :: a6 :: a7 :: a8 :: b1 :: r)[j]? = some (some v) := by
  match j, hj with
  | 0, hj => exact hj
  | 1, hj => exact hj
  | 2, hj => exact hj
  | 3, hj => exact hj
  | 4, hj => exact hj
  | 5, hj => exact hj
  | 6, hj => exact hj
  | 7, hj => exact hj
  | 8, hj => exact hj
  | 9, hj => cases hj
  | j + 10, hj => exact hj
theorem sn_11 {a0 a1 a2 a3 a4 a5 a6 a7 a8 a9 b1 : Option Value} {r : List (Option Value)} {j : Nat} {v : Value} (hj : (a0 :: a1 :: a2 :: a3 :: a4 :: a5 :: a6 :: a7 :: a8 :: a9 :: none :: r)[j]? = some (some v)) : (a0 :: a1 :: a2 :: a3 :: a4 :: a5 :: a6 :: a7 :: a8 :: a9 :: b1 :: r)[j]? = some (some v) := by
  match j, hj with
  | 0, hj => exact hj
  | 1, hj => exact hj
  | 2, hj => exact hj
  | 3, hj => exact hj
  | 4, hj => exact hj
  | 5, hj => exact hj
  | 6, hj => exact hj
  | 7, hj => exact hj
  | 8, hj => exact hj
  | 9, hj => exact hj
  | 10, hj => cases hj
  | j + 11, hj => exact hj
theorem sn_12 {a0 a1 a2 a3 a4 a5 a6 a7 a8 a9 a10 b1 : Option Value} {r : List (Option Value)} {j : Nat} {v : Value} (hj : (a0 :: a1 :: a2 :: a3 :: a4 :: a5 :: a6 :: a7 :: a8 :: a9 :: a10 :: none :: r)[j]? = some (some v)) : (a0 :: a1 :: a2 :: a3 :: a4 :: a5 :: a6 :: a7 :: a8 :: a9 :: a10 :: b1 :: r)[j]? = some (some v) := by
  match j, hj with
  | 0, hj => exact hj
  | 1, hj => exact hj
  | 2, hj => exact hj
  | 3, hj => exact hj
  | 4, hj => exact hj
  | 5, hj => exact hj
  | 6, hj => exact hj
  | 7, hj => exact hj
  | 8, hj => exact hj
  | 9, hj => exact hj
  | 10, hj => exact hj
  | 11, hj => cases hj
  | j + 12, hj => exact hj
theorem sn_13 {a0 a1 a2 a3 a4 a5 a6 a7 a8 a9 a10 a11 b1 : Option Value} {r : List (Option Value)} {j : Nat} {v : Value} (hj : (a0 :: a1 :: a2 :: a3 :: a4 :: a5 :: a6 :: a7 :: a8 :: a9 :: a10 :: a11 :: none :: r)[j]? = some (some v)) : (a0 :: a1 :: a2 :: a3 :: a4 :: a5 :: a6 :: a7 :: a8 :: a9 :: a10 :: a11 :: b1 :: r)[j]? = some (some v) := by
  match j, hj with
  | 0, hj => exact hj
  | 1, hj => exact hj
  | 2, hj => exact hj
  | 3, hj => exact hj
  | 4, hj => exact hj
  | 5, hj => exact hj
  | 6, hj => exact hj
  | 7, hj => exact hj
  | 8, hj => exact hj
  | 9, hj => exact hj
  | 10, hj => exact hj
  | 11, hj => exact hj
  | 12, hj => cases hj
  | j + 13, hj => exact hj
theorem sn_14 {a0 a1 a2 a3 a4 a5 a6 a7 a8 a9 a10 a11 a12 b1 : Option Value} {r : List (Option Value)} {j : Nat} {v : Value} (hj : (a0 :: a1 :: a2 :: a3 :: a4 :: a5 :: a6 :: a7 :: a8 :: a9 :: a10 :: a11 :: a12 :: none :: r)[j]? = some (some v)) : (a0 :: a1 :: a2 :: a3 :: a4 :: a5 :: a6 :: a7 :: a8 :: a9 :: a10 :: a11 :: a12 :: b1 :: r)[j]? = some (some v) := by
  match j, hj with
  | 0, hj => exact hj
  | 1, hj => exact hj
  | 2, hj => exact hj
  | 3, hj => exact hj
  | 4, hj => exact hj
  | 5, hj => exact hj
  | 6, hj => exact hj
  | 7, hj => exact hj
  | 8, hj => exact hj
  | 9, hj => exact hj
  | 10, hj => exact hj
  | 11, hj => exact hj
  | 12, hj => exact hj
  | 13, hj => cases hj
  | j + 14, hj => exact hj
theorem kj_ist1w (C : Cx g X cc own nL d) {b1 b0 : Option Value} {r : List (Option Value)} {x : Int32} (hd : decode cc pc = .ok (.istore_n 1, 1)) (hn : 1 < nL) (kk : Kj g X nL (pc + 1) (none :: some (.int x) :: r) st M) : Kj g X nL pc (b1 :: b0 :: r) (.int x :: st) M := by
  refine kj_lv (lv' := none :: b0 :: r) (fun j v hj => ?_) (kj_ist1 C hd hn rfl kk)
  exact sn_1 hj
theorem kj_ast1w (C : Cx g X cc own nL d) {b1 b0 : Option Value} {r : List (Option Value)} {x : Nat} (hd : decode cc pc = .ok (.astore_n 1, 1)) (hn : 1 < nL) (kk : Kj g X nL (pc + 1) (none :: some (.ref x) :: r) st M) : Kj g X nL pc (b1 :: b0 :: r) (.ref x :: st) M := by
  refine kj_lv (lv' := none :: b0 :: r) (fun j v hj => ?_) (kj_ast1 C hd hn rfl kk)
  exact sn_1 hj
theorem kj_ist2w (C : Cx g X cc own nL d) {a0 b1 b0 : Option Value} {r : List (Option Value)} {x : Int32} (hd : decode cc pc = .ok (.istore_n 2, 1)) (hn : 2 < nL) (kk : Kj g X nL (pc + 1) (a0 :: none :: some (.int x) :: r) st M) : Kj g X nL pc (a0 :: b1 :: b0 :: r) (.int x :: st) M := by
  refine kj_lv (lv' := a0 :: none :: b0 :: r) (fun j v hj => ?_) (kj_ist2 C hd hn rfl kk)
  exact sn_2 hj
theorem kj_ast2w (C : Cx g X cc own nL d) {a0 b1 b0 : Option Value} {r : List (Option Value)} {x : Nat} (hd : decode cc pc = .ok (.astore_n 2, 1)) (hn : 2 < nL) (kk : Kj g X nL (pc + 1) (a0 :: none :: some (.ref x) :: r) st M) : Kj g X nL pc (a0 :: b1 :: b0 :: r) (.ref x :: st) M := by
  refine kj_lv (lv' := a0 :: none :: b0 :: r) (fun j v hj => ?_) (kj_ast2 C hd hn rfl kk)
  exact sn_2 hj
theorem kj_ist3w (C : Cx g X cc own nL d) {a0 a1 b1 b0 : Option Value} {r : List (Option Value)} {x : Int32} (hd : decode cc pc = .ok (.istore_n 3, 1)) (hn : 3 < nL) (kk : Kj g X nL (pc + 1) (a0 :: a1 :: none :: some (.int x) :: r) st M) : Kj g X nL pc (a0 :: a1 :: b1 :: b0 :: r) (.int x :: st) M := by
  refine kj_lv (lv' := a0 :: a1 :: none :: b0 :: r) (fun j v hj => ?_) (kj_ist3 C hd hn rfl kk)
  exact sn_3 hj
theorem kj_ast3w (C : Cx g X cc own nL d) {a0 a1 b1 b0 : Option Value} {r : List (Option Value)} {x : Nat} (hd : decode cc pc = .ok (.astore_n 3, 1)) (hn : 3 < nL) (kk : Kj g X nL (pc + 1) (a0 :: a1 :: none :: some (.ref x) :: r) st M) : Kj g X nL pc (a0 :: a1 :: b1 :: b0 :: r) (.ref x :: st) M := by
  refine kj_lv (lv' := a0 :: a1 :: none :: b0 :: r) (fun j v hj => ?_) (kj_ast3 C hd hn rfl kk)
  exact sn_3 hj
theorem kj_ist4w (C : Cx g X cc own nL d) {a0 a1 a2 b1 b0 : Option Value} {r : List (Option Value)} {x : Int32} (hd : decode cc pc = .ok (.istore 4, 2)) (hn : 4 < nL) (kk : Kj g X nL (pc + 2) (a0 :: a1 :: a2 :: none :: some (.int x) :: r) st M) : Kj g X nL pc (a0 :: a1 :: a2 :: b1 :: b0 :: r) (.int x :: st) M := by
  refine kj_lv (lv' := a0 :: a1 :: a2 :: none :: b0 :: r) (fun j v hj => ?_) (kj_ist4 C hd hn rfl kk)
  exact sn_4 hj
theorem kj_ast4w (C : Cx g X cc own nL d) {a0 a1 a2 b1 b0 : Option Value} {r : List (Option Value)} {x : Nat} (hd : decode cc pc = .ok (.astore 4, 2)) (hn : 4 < nL) (kk : Kj g X nL (pc + 2) (a0 :: a1 :: a2 :: none :: some (.ref x) :: r) st M) : Kj g X nL pc (a0 :: a1 :: a2 :: b1 :: b0 :: r) (.ref x :: st) M := by
  refine kj_lv (lv' := a0 :: a1 :: a2 :: none :: b0 :: r) (fun j v hj => ?_) (kj_ast4 C hd hn rfl kk)
  exact sn_4 hj
theorem kj_ist5w (C : Cx g X cc own nL d) {a0 a1 a2 a3 b1 b0 : Option Value} {r : List (Option Value)} {x : Int32} (hd : decode cc pc = .ok (.istore 5, 2)) (hn : 5 < nL) (kk : Kj g X nL (pc + 2) (a0 :: a1 :: a2 :: a3 :: none :: some (.int x) :: r) st M) : Kj g X nL pc (a0 :: a1 :: a2 :: a3 :: b1 :: b0 :: r) (.int x :: st) M := by
  refine kj_lv (lv' := a0 :: a1 :: a2 :: a3 :: none :: b0 :: r) (fun j v hj => ?_) (kj_ist5 C hd hn rfl kk)
  exact sn_5 hj
theorem kj_ast5w (C : Cx g X cc own nL d) {a0 a1 a2 a3 b1 b0 : Option Value} {r : List (Option Value)} {x : Nat} (hd : decode cc pc = .ok (.astore 5, 2)) (hn : 5 < nL) (kk : Kj g X nL (pc + 2) (a0 :: a1 :: a2 :: a3 :: none :: some (.ref x) :: r) st M) : Kj g X nL pc (a0 :: a1 :: a2 :: a3 :: b1 :: b0 :: r) (.ref x :: st) M := by
  refine kj_lv (lv' := a0 :: a1 :: a2 :: a3 :: none :: b0 :: r) (fun j v hj => ?_) (kj_ast5 C hd hn rfl kk)
  exact sn_5 hj
theorem kj_ist6w (C : Cx g X cc own nL d) {a0 a1 a2 a3 a4 b1 b0 : Option Value} {r : List (Option Value)} {x : Int32} (hd : decode cc pc = .ok (.istore 6, 2)) (hn : 6 < nL) (kk : Kj g X nL (pc + 2) (a0 :: a1 :: a2 :: a3 :: a4 :: none :: some (.int x) :: r) st M) : Kj g X nL pc (a0 :: a1 :: a2 :: a3 :: a4 :: b1 :: b0 :: r) (.int x :: st) M := by
  refine kj_lv (lv' := a0 :: a1 :: a2 :: a3 :: a4 :: none :: b0 :: r) (fun j v hj => ?_) (kj_ist6 C hd hn rfl kk)
  exact sn_6 hj
theorem kj_ast6w (C : Cx g X cc own nL d) {a0 a1 a2 a3 a4 b1 b0 : Option Value} {r : List (Option Value)} {x : Nat} (hd : decode cc pc = .ok (.astore 6, 2)) (hn : 6 < nL) (kk : Kj g X nL (pc + 2) (a0 :: a1 :: a2 :: a3 :: a4 :: none :: some (.ref x) :: r) st M) : Kj g X nL pc (a0 :: a1 :: a2 :: a3 :: a4 :: b1 :: b0 :: r) (.ref x :: st) M := by
  refine kj_lv (lv' := a0 :: a1 :: a2 :: a3 :: a4 :: none :: b0 :: r) (fun j v hj => ?_) (kj_ast6 C hd hn rfl kk)
  exact sn_6 hj
theorem kj_ist7w (C : Cx g X cc own nL d) {a0 a1 a2 a3 a4 a5 b1 b0 : Option Value} {r : List (Option Value)} {x : Int32} (hd : decode cc pc = .ok (.istore 7, 2)) (hn : 7 < nL) (kk : Kj g X nL (pc + 2) (a0 :: a1 :: a2 :: a3 :: a4 :: a5 :: none :: some (.int x) :: r) st M) : Kj g X nL pc (a0 :: a1 :: a2 :: a3 :: a4 :: a5 :: b1 :: b0 :: r) (.int x :: st) M := by
  refine kj_lv (lv' := a0 :: a1 :: a2 :: a3 :: a4 :: a5 :: none :: b0 :: r) (fun j v hj => ?_) (kj_ist7 C hd hn rfl kk)
  exact sn_7 hj
theorem kj_ast7w (C : Cx g X cc own nL d) {a0 a1 a2 a3 a4 a5 b1 b0 : Option Value} {r : List (Option Value)} {x : Nat} (hd : decode cc pc = .ok (.astore 7, 2)) (hn : 7 < nL) (kk : Kj g X nL (pc + 2) (a0 :: a1 :: a2 :: a3 :: a4 :: a5 :: none :: some (.ref x) :: r) st M) : Kj g X nL pc (a0 :: a1 :: a2 :: a3 :: a4 :: a5 :: b1 :: b0 :: r) (.ref x :: st) M := by
  refine kj_lv (lv' := a0 :: a1 :: a2 :: a3 :: a4 :: a5 :: none :: b0 :: r) (fun j v hj => ?_) (kj_ast7 C hd hn rfl kk)
  exact sn_7 hj
theorem kj_ist8w (C : Cx g X cc own nL d) {a0 a1 a2 a3 a4 a5 a6 b1 b0 : Option Value} {r : List (Option Value)} {x : Int32} (hd : decode cc pc = .ok (.istore 8, 2)) (hn : 8 < nL) (kk : Kj g X nL (pc + 2) (a0 :: a1 :: a2 :: a3 :: a4 :: a5 :: a6 :: none :: some (.int x) :: r) st M) : Kj g X nL pc (a0 :: a1 :: a2 :: a3 :: a4 :: a5 :: a6 :: b1 :: b0 :: r) (.int x :: st) M := by
  refine kj_lv (lv' := a0 :: a1 :: a2 :: a3 :: a4 :: a5 :: a6 :: none :: b0 :: r) (fun j v hj => ?_) (kj_ist8 C hd hn rfl kk)
  exact sn_8 hj
theorem kj_ast8w (C : Cx g X cc own nL d) {a0 a1 a2 a3 a4 a5 a6 b1 b0 : Option Value} {r : List (Option Value)} {x : Nat} (hd : decode cc pc = .ok (.astore 8, 2)) (hn : 8 < nL) (kk : Kj g X nL (pc + 2) (a0 :: a1 :: a2 :: a3 :: a4 :: a5 :: a6 :: none :: some (.ref x) :: r) st M) : Kj g X nL pc (a0 :: a1 :: a2 :: a3 :: a4 :: a5 :: a6 :: b1 :: b0 :: r) (.ref x :: st) M := by
  refine kj_lv (lv' := a0 :: a1 :: a2 :: a3 :: a4 :: a5 :: a6 :: none :: b0 :: r) (fun j v hj => ?_) (kj_ast8 C hd hn rfl kk)
  exact sn_8 hj
theorem kj_ist9w (C : Cx g X cc own nL d) {a0 a1 a2 a3 a4 a5 a6 a7 b1 b0 : Option Value} {r : List (Option Value)} {x : Int32} (hd : decode cc pc = .ok (.istore 9, 2)) (hn : 9 < nL) (kk : Kj g X nL (pc + 2) (a0 :: a1 :: a2 :: a3 :: a4 :: a5 :: a6 :: a7 :: none :: some (.int x) :: r) st M) : Kj g X nL pc (a0 :: a1 :: a2 :: a3 :: a4 :: a5 :: a6 :: a7 :: b1 :: b0 :: r) (.int x :: st) M := by
  refine kj_lv (lv' := a0 :: a1 :: a2 :: a3 :: a4 :: a5 :: a6 :: a7 :: none :: b0 :: r) (fun j v hj => ?_) (kj_ist9 C hd hn rfl kk)
  exact sn_9 hj
theorem kj_ast9w (C : Cx g X cc own nL d) {a0 a1 a2 a3 a4 a5 a6 a7 b1 b0 : Option Value} {r : List (Option Value)} {x : Nat} (hd : decode cc pc = .ok (.astore 9, 2)) (hn : 9 < nL) (kk : Kj g X nL (pc + 2) (a0 :: a1 :: a2 :: a3 :: a4 :: a5 :: a6 :: a7 :: none :: some (.ref x) :: r) st M) : Kj g X nL pc (a0 :: a1 :: a2 :: a3 :: a4 :: a5 :: a6 :: a7 :: b1 :: b0 :: r) (.ref x :: st) M := by
  refine kj_lv (lv' := a0 :: a1 :: a2 :: a3 :: a4 :: a5 :: a6 :: a7 :: none :: b0 :: r) (fun j v hj => ?_) (kj_ast9 C hd hn rfl kk)
  exact sn_9 hj
theorem kj_ist10w (C : Cx g X cc own nL d) {a0 a1 a2 a3 a4 a5 a6 a7 a8 b1 b0 : Option Value} {r : List (Option Value)} {x : Int32} (hd : decode cc pc = .ok (.istore 10, 2)) (hn : 10 < nL) (kk : Kj g X nL (pc + 2) (a0 :: a1 :: a2 :: a3 :: a4 :: a5 :: a6 :: a7 :: a8 :: none :: some (.int x) :: r) st M) : Kj g X nL pc (a0 :: a1 :: a2 :: a3 :: a4 :: a5 :: a6 :: a7 :: a8 :: b1 :: b0 :: r) (.int x :: st) M := by
  refine kj_lv (lv' := a0 :: a1 :: a2 :: a3 :: a4 :: a5 :: a6 :: a7 :: a8 :: none :: b0 :: r) (fun j v hj => ?_) (kj_ist10 C hd hn rfl kk)
  exact sn_10 hj
theorem kj_ast10w (C : Cx g X cc own nL d) {a0 a1 a2 a3 a4 a5 a6 a7 a8 b1 b0 : Option Value} {r : List (Option Value)} {x : Nat} (hd : decode cc pc = .ok (.astore 10, 2)) (hn : 10 < nL) (kk : Kj g X nL (pc + 2) (a0 :: a1 :: a2 :: a3 :: a4 :: a5 :: a6 :: a7 :: a8 :: none :: some (.ref x) :: r) st M) : Kj g X nL pc (a0 :: a1 :: a2 :: a3 :: a4 :: a5 :: a6 :: a7 :: a8 :: b1 :: b0 :: r) (.ref x :: st) M := by
  refine kj_lv (lv' := a0 :: a1 :: a2 :: a3 :: a4 :: a5 :: a6 :: a7 :: a8 :: none :: b0 :: r) (fun j v hj => ?_) (kj_ast10 C hd hn rfl kk)
  exact sn_10 hj
theorem kj_ist11w (C : Cx g X cc own nL d) {a0 a1 a2 a3 a4 a5 a6 a7 a8 a9 b1 b0 : Option Value} {r : List (Option Value)} {x : Int32} (hd : decode cc pc = .ok (.istore 11, 2)) (hn : 11 < nL) (kk : Kj g X nL (pc + 2) (a0 :: a1 :: a2 :: a3 :: a4 :: a5 :: a6 :: a7 :: a8 :: a9 :: none :: some (.int x) :: r) st M) : Kj g X nL pc (a0 :: a1 :: a2 :: a3 :: a4 :: a5 :: a6 :: a7 :: a8 :: a9 :: b1 :: b0 :: r) (.int x :: st) M := by
  refine kj_lv (lv' := a0 :: a1 :: a2 :: a3 :: a4 :: a5 :: a6 :: a7 :: a8 :: a9 :: none :: b0 :: r) (fun j v hj => ?_) (kj_ist11 C hd hn rfl kk)
  exact sn_11 hj
theorem kj_ast11w (C : Cx g X cc own nL d) {a0 a1 a2 a3 a4 a5 a6 a7 a8 a9 b1 b0 : Option Value} {r : List (Option Value)} {x : Nat} (hd : decode cc pc = .ok (.astore 11, 2)) (hn : 11 < nL) (kk : Kj g X nL (pc + 2) (a0 :: a1 :: a2 :: a3 :: a4 :: a5 :: a6 :: a7 :: a8 :: a9 :: none :: some (.ref x) :: r) st M) : Kj g X nL pc (a0 :: a1 :: a2 :: a3 :: a4 :: a5 :: a6 :: a7 :: a8 :: a9 :: b1 :: b0 :: r) (.ref x :: st) M := by
  refine kj_lv (lv' := a0 :: a1 :: a2 :: a3 :: a4 :: a5 :: a6 :: a7 :: a8 :: a9 :: none :: b0 :: r) (fun j v hj => ?_) (kj_ast11 C hd hn rfl kk)
  exact sn_11 hj
theorem kj_ist12w (C : Cx g X cc own nL d) {a0 a1 a2 a3 a4 a5 a6 a7 a8 a9 a10 b1 b0 : Option Value} {r : List (Option Value)} {x : Int32} (hd : decode cc pc = .ok (.istore 12, 2)) (hn : 12 < nL) (kk : Kj g X nL (pc + 2) (a0 :: a1 :: a2 :: a3 :: a4 :: a5 :: a6 :: a7 :: a8 :: a9 :: a10 :: none :: some (.int x) :: r) st M) : Kj g X nL pc (a0 :: a1 :: a2 :: a3 :: a4 :: a5 :: a6 :: a7 :: a8 :: a9 :: a10 :: b1 :: b0 :: r) (.int x :: st) M := by
  refine kj_lv (lv' := a0 :: a1 :: a2 :: a3 :: a4 :: a5 :: a6 :: a7 :: a8 :: a9 :: a10 :: none :: b0 :: r) (fun j v hj => ?_) (kj_ist12 C hd hn rfl kk)
  exact sn_12 hj
theorem kj_ast12w (C : Cx g X cc own nL d) {a0 a1 a2 a3 a4 a5 a6 a7 a8 a9 a10 b1 b0 : Option Value} {r : List (Option Value)} {x : Nat} (hd : decode cc pc = .ok (.astore 12, 2)) (hn : 12 < nL) (kk : Kj g X nL (pc + 2) (a0 :: a1 :: a2 :: a3 :: a4 :: a5 :: a6 :: a7 :: a8 :: a9 :: a10 :: none :: some (.ref x) :: r) st M) : Kj g X nL pc (a0 :: a1 :: a2 :: a3 :: a4 :: a5 :: a6 :: a7 :: a8 :: a9 :: a10 :: b1 :: b0 :: r) (.ref x :: st) M := by
  refine kj_lv (lv' := a0 :: a1 :: a2 :: a3 :: a4 :: a5 :: a6 :: a7 :: a8 :: a9 :: a10 :: none :: b0 :: r) (fun j v hj => ?_) (kj_ast12 C hd hn rfl kk)
  exact sn_12 hj
theorem kj_ist13w (C : Cx g X cc own nL d) {a0 a1 a2 a3 a4 a5 a6 a7 a8 a9 a10 a11 b1 b0 : Option Value} {r : List (Option Value)} {x : Int32} (hd : decode cc pc = .ok (.istore 13, 2)) (hn : 13 < nL) (kk : Kj g X nL (pc + 2) (a0 :: a1 :: a2 :: a3 :: a4 :: a5 :: a6 :: a7 :: a8 :: a9 :: a10 :: a11 :: none :: some (.int x) :: r) st M) : Kj g X nL pc (a0 :: a1 :: a2 :: a3 :: a4 :: a5 :: a6 :: a7 :: a8 :: a9 :: a10 :: a11 :: b1 :: b0 :: r) (.int x :: st) M := by
  refine kj_lv (lv' := a0 :: a1 :: a2 :: a3 :: a4 :: a5 :: a6 :: a7 :: a8 :: a9 :: a10 :: a11 :: none :: b0 :: r) (fun j v hj => ?_) (kj_ist13 C hd hn rfl kk)
  exact sn_13 hj
theorem kj_ast13w (C : Cx g X cc own nL d) {a0 a1 a2 a3 a4 a5 a6 a7 a8 a9 a10 a11 b1 b0 : Option Value} {r : List (Option Value)} {x : Nat} (hd : decode cc pc = .ok (.astore 13, 2)) (hn : 13 < nL) (kk : Kj g X nL (pc + 2) (a0 :: a1 :: a2 :: a3 :: a4 :: a5 :: a6 :: a7 :: a8 :: a9 :: a10 :: a11 :: none :: some (.ref x) :: r) st M) : Kj g X nL pc (a0 :: a1 :: a2 :: a3 :: a4 :: a5 :: a6 :: a7 :: a8 :: a9 :: a10 :: a11 :: b1 :: b0 :: r) (.ref x :: st) M := by
  refine kj_lv (lv' := a0 :: a1 :: a2 :: a3 :: a4 :: a5 :: a6 :: a7 :: a8 :: a9 :: a10 :: a11 :: none :: b0 :: r) (fun j v hj => ?_) (kj_ast13 C hd hn rfl kk)
  exact sn_13 hj
theorem kj_ist14w (C : Cx g X cc own nL d) {a0 a1 a2 a3 a4 a5 a6 a7 a8 a9 a10 a11 a12 b1 b0 : Option Value} {r : List (Option Value)} {x : Int32} (hd : decode cc pc = .ok (.istore 14, 2)) (hn : 14 < nL) (kk : Kj g X nL (pc + 2) (a0 :: a1 :: a2 :: a3 :: a4 :: a5 :: a6 :: a7 :: a8 :: a9 :: a10 :: a11 :: a12 :: none :: some (.int x) :: r) st M) : Kj g X nL pc (a0 :: a1 :: a2 :: a3 :: a4 :: a5 :: a6 :: a7 :: a8 :: a9 :: a10 :: a11 :: a12 :: b1 :: b0 :: r) (.int x :: st) M := by
  refine kj_lv (lv' := a0 :: a1 :: a2 :: a3 :: a4 :: a5 :: a6 :: a7 :: a8 :: a9 :: a10 :: a11 :: a12 :: none :: b0 :: r) (fun j v hj => ?_) (kj_ist14 C hd hn rfl kk)
  exact sn_14 hj
theorem kj_ast14w (C : Cx g X cc own nL d) {a0 a1 a2 a3 a4 a5 a6 a7 a8 a9 a10 a11 a12 b1 b0 : Option Value} {r : List (Option Value)} {x : Nat} (hd : decode cc pc = .ok (.astore 14, 2)) (hn : 14 < nL) (kk : Kj g X nL (pc + 2) (a0 :: a1 :: a2 :: a3 :: a4 :: a5 :: a6 :: a7 :: a8 :: a9 :: a10 :: a11 :: a12 :: none :: some (.ref x) :: r) st M) : Kj g X nL pc (a0 :: a1 :: a2 :: a3 :: a4 :: a5 :: a6 :: a7 :: a8 :: a9 :: a10 :: a11 :: a12 :: b1 :: b0 :: r) (.ref x :: st) M := by
  refine kj_lv (lv' := a0 :: a1 :: a2 :: a3 :: a4 :: a5 :: a6 :: a7 :: a8 :: a9 :: a10 :: a11 :: a12 :: none :: b0 :: r) (fun j v hj => ?_) (kj_ast14 C hd hn rfl kk)
  exact sn_14 hj
theorem fl_X1_78 : Cond.fieldLink RX1 78 "JealousChoir$Chances" "FACTORIALS" "[I" ∈ gW := gw_mk (i := 661) (by decide +kernel) rfl
theorem fl_X0_11 : Cond.fieldLink RX0 11 "JealousChoir$ActRow" (TX0 0).2.1 (TX0 0).2.2.1 ∈ gW := gw_mk (i := 208) (by decide +kernel) rfl
theorem gf_X0_11 (C : Cx g X cc RX0 nL d) (hd : decode cc pc = .ok (.getfield 11, 3)) (kk : Kj g X nL (pc + 3) lv (.ref (ga g 21 1) :: st) M) : Kj g X nL pc lv (.ref (ga g 21 0) :: st) M := kj_get C rc_21.1 rc_21.2 ing_X0 (k := 0) (by decide) fl_X0_11 (by decide) (rfl) hd kk
theorem fl_X0_17 : Cond.fieldLink RX0 17 "JealousChoir$ActRow" (TX0 1).2.1 (TX0 1).2.2.1 ∈ gW := gw_mk (i := 209) (by decide +kernel) rfl
theorem gf_X0_17 (C : Cx g X cc RX0 nL d) (hd : decode cc pc = .ok (.getfield 17, 3)) (kk : Kj g X nL (pc + 3) lv (.int (M.1 21 0 1) :: st) M) : Kj g X nL pc lv (.ref (ga g 21 0) :: st) M := kj_get C rc_21.1 rc_21.2 ing_X0 (k := 1) (by decide) fl_X0_17 (by decide) (rfl) hd kk
theorem pf_X0_17 (C : Cx g X cc RX0 nL d) {x : Int32} (hd : decode cc pc = .ok (.putfield 17, 3)) (kk : Kj g X nL (pc + 3) lv st (sw M 21 0 1 x)) : Kj g X nL pc lv (.int x :: .ref (ga g 21 0) :: st) M := kj_put C rc_21.1 rc_21.2 ing_X0 tyX0_ok nmX0 (k := 1) (by decide) fl_X0_17 (by decide) (by decide) (ty := .int) (by decide +kernel) rfl rfl (Nat.le_of_ble_eq_true rfl) cel_sr (rfl) hd kk
theorem fl_X0_21 : Cond.fieldLink RX0 21 "JealousChoir$ActRow" (TX0 2).2.1 (TX0 2).2.2.1 ∈ gW := gw_mk (i := 210) (by decide +kernel) rfl
theorem gf_X0_21 (C : Cx g X cc RX0 nL d) (hd : decode cc pc = .ok (.getfield 21, 3)) (kk : Kj g X nL (pc + 3) lv (.int (M.1 21 0 2) :: st) M) : Kj g X nL pc lv (.ref (ga g 21 0) :: st) M := kj_get C rc_21.1 rc_21.2 ing_X0 (k := 2) (by decide) fl_X0_21 (by decide) (rfl) hd kk
theorem pf_X0_21 (C : Cx g X cc RX0 nL d) {x : Int32} (hd : decode cc pc = .ok (.putfield 21, 3)) (kk : Kj g X nL (pc + 3) lv st (sw M 21 0 2 x)) : Kj g X nL pc lv (.int x :: .ref (ga g 21 0) :: st) M := kj_put C rc_21.1 rc_21.2 ing_X0 tyX0_ok nmX0 (k := 2) (by decide) fl_X0_21 (by decide) (by decide) (ty := .int) (by decide +kernel) rfl rfl (Nat.le_of_ble_eq_true rfl) cel_sr (rfl) hd kk
theorem fl_X1_9 : Cond.fieldLink RX1 9 "JealousChoir$Chances" (TX1 3).2.1 (TX1 3).2.2.1 ∈ gW := gw_mk (i := 282) (by decide +kernel) rfl
theorem gf_X1_9 (C : Cx g X cc RX1 nL d) (hd : decode cc pc = .ok (.getfield 9, 3)) (kk : Kj g X nL (pc + 3) lv (.ref (ga g 25 1) :: st) M) : Kj g X nL pc lv (.ref (ga g 25 0) :: st) M := kj_get C rc_25.1 rc_25.2 ing_X1 (k := 3) (by decide) fl_X1_9 (by decide) (rfl) hd kk
theorem fl_X1_15 : Cond.fieldLink RX1 15 "JealousChoir$Chances" (TX1 4).2.1 (TX1 4).2.2.1 ∈ gW := gw_mk (i := 283) (by decide +kernel) rfl
theorem gf_X1_15 (C : Cx g X cc RX1 nL d) (hd : decode cc pc = .ok (.getfield 15, 3)) (kk : Kj g X nL (pc + 3) lv (.ref (ga g 25 2) :: st) M) : Kj g X nL pc lv (.ref (ga g 25 0) :: st) M := kj_get C rc_25.1 rc_25.2 ing_X1 (k := 4) (by decide) fl_X1_15 (by decide) (rfl) hd kk
theorem fl_X1_18 : Cond.fieldLink RX1 18 "JealousChoir$Chances" (TX1 5).2.1 (TX1 5).2.2.1 ∈ gW := gw_mk (i := 284) (by decide +kernel) rfl
theorem gf_X1_18 (C : Cx g X cc RX1 nL d) (hd : decode cc pc = .ok (.getfield 18, 3)) (kk : Kj g X nL (pc + 3) lv (.ref (ga g 25 3) :: st) M) : Kj g X nL pc lv (.ref (ga g 25 0) :: st) M := kj_get C rc_25.1 rc_25.2 ing_X1 (k := 5) (by decide) fl_X1_18 (by decide) (rfl) hd kk
theorem fl_X1_21 : Cond.fieldLink RX1 21 "JealousChoir$Chances" (TX1 0).2.1 (TX1 0).2.2.1 ∈ gW := gw_mk (i := 279) (by decide +kernel) rfl
theorem gf_X1_21 (C : Cx g X cc RX1 nL d) (hd : decode cc pc = .ok (.getfield 21, 3)) (kk : Kj g X nL (pc + 3) lv (.ref (ga g 19 0) :: st) M) : Kj g X nL pc lv (.ref (ga g 25 0) :: st) M := kj_get C rc_25.1 rc_25.2 ing_X1 (k := 0) (by decide) fl_X1_21 (by decide) (rfl) hd kk
theorem fl_X1_25 : Cond.fieldLink RX1 25 "JealousChoir$Chances" (TX1 1).2.1 (TX1 1).2.2.1 ∈ gW := gw_mk (i := 280) (by decide +kernel) rfl
theorem gf_X1_25 (C : Cx g X cc RX1 nL d) (hd : decode cc pc = .ok (.getfield 25, 3)) (kk : Kj g X nL (pc + 3) lv (.ref (ga g 0 0) :: st) M) : Kj g X nL pc lv (.ref (ga g 25 0) :: st) M := kj_get C rc_25.1 rc_25.2 ing_X1 (k := 1) (by decide) fl_X1_25 (by decide) (rfl) hd kk
theorem fl_X1_29 : Cond.fieldLink RX1 29 "JealousChoir$Chances" (TX1 2).2.1 (TX1 2).2.2.1 ∈ gW := gw_mk (i := 281) (by decide +kernel) rfl
theorem gf_X1_29 (C : Cx g X cc RX1 nL d) (hd : decode cc pc = .ok (.getfield 29, 3)) (kk : Kj g X nL (pc + 3) lv (.ref (ga g 1 0) :: st) M) : Kj g X nL pc lv (.ref (ga g 25 0) :: st) M := kj_get C rc_25.1 rc_25.2 ing_X1 (k := 2) (by decide) fl_X1_29 (by decide) (rfl) hd kk
theorem fl_X1_38 : Cond.fieldLinkNest RX1 38 "JealousChoir$Stand" (TX7 5).2.1 (TX7 5).2.2.1 "JealousChoir" ∈ nW := nw_mk (i := 174) (by decide +kernel) rfl
theorem pf_X1_38 (C : Cx g X cc RX1 nL d) {o : Nat} (ho : o < 18) {x : Int32} (hd : decode cc pc = .ok (.putfield 38, 3)) (kk : Kj g X nL (pc + 3) lv st (sw M o 0 5 x)) : Kj g X nL pc lv (.int x :: .ref (ga g o 0) :: st) M := kj_putN C (rc_st ho).1 (rc_st ho).2 ing_X7 tyX7_ok nmX7 (k := 5) (by decide) fl_X1_38 (by decide) (by decide) (ty := .int) (by decide +kernel) rfl rfl (by rw [flds_st ho]; exact Nat.le_of_ble_eq_true rfl) cel_sr (by rw [flds_st ho, flds_st ho, sr_same]; rfl) hd kk
theorem fl_X1_68 : Cond.fieldLinkNest RX1 68 "JealousChoir$Roll" (TX4 3).2.1 (TX4 3).2.2.1 "JealousChoir" ∈ nW := nw_mk (i := 141) (by decide +kernel) rfl
theorem gf_X1_68 (C : Cx g X cc RX1 nL d) (hd : decode cc pc = .ok (.getfield 68, 3)) (kk : Kj g X nL (pc + 3) lv (.int (M.1 19 0 3) :: st) M) : Kj g X nL pc lv (.ref (ga g 19 0) :: st) M := kj_getN C rc_19.1 rc_19.2 ing_X4 (k := 3) (by decide) fl_X1_68 (by decide) (rfl) hd kk
theorem fl_X1_93 : Cond.fieldLinkNest RX1 93 "JealousChoir$Roll" (TX4 0).2.1 (TX4 0).2.2.1 "JealousChoir" ∈ nW := nw_mk (i := 130) (by decide +kernel) rfl
theorem gf_X1_93 (C : Cx g X cc RX1 nL d) (hd : decode cc pc = .ok (.getfield 93, 3)) (kk : Kj g X nL (pc + 3) lv (.ref (ga g 19 1) :: st) M) : Kj g X nL pc lv (.ref (ga g 19 0) :: st) M := kj_getN C rc_19.1 rc_19.2 ing_X4 (k := 0) (by decide) fl_X1_93 (by decide) (rfl) hd kk
theorem fl_X10_7 : Cond.fieldLink RX10 7 "JealousChoirModel" (TX10 1).2.1 (TX10 1).2.2.1 ∈ gW := gw_mk (i := 773) (by decide +kernel) rfl
theorem gf_X10_7 (C : Cx g X cc RX10 nL d) (hd : decode cc pc = .ok (.getfield 7, 3)) (kk : Kj g X nL (pc + 3) lv (.ref (ga g 27 1) :: st) M) : Kj g X nL pc lv (.ref (ga g 27 0) :: st) M := kj_get C rc_27.1 rc_27.2 ing_X10 (k := 1) (by decide) fl_X10_7 (by decide) (rfl) hd kk
theorem fl_X10_13 : Cond.fieldLink RX10 13 "JealousChoirModel" (TX10 2).2.1 (TX10 2).2.2.1 ∈ gW := gw_mk (i := 774) (by decide +kernel) rfl
theorem gf_X10_13 (C : Cx g X cc RX10 nL d) (hd : decode cc pc = .ok (.getfield 13, 3)) (kk : Kj g X nL (pc + 3) lv (.ref (ga g 27 2) :: st) M) : Kj g X nL pc lv (.ref (ga g 27 0) :: st) M := kj_get C rc_27.1 rc_27.2 ing_X10 (k := 2) (by decide) fl_X10_13 (by decide) (rfl) hd kk
theorem fl_X10_16 : Cond.fieldLink RX10 16 "JealousChoirModel" (TX10 3).2.1 (TX10 3).2.2.1 ∈ gW := gw_mk (i := 775) (by decide +kernel) rfl
theorem gf_X10_16 (C : Cx g X cc RX10 nL d) (hd : decode cc pc = .ok (.getfield 16, 3)) (kk : Kj g X nL (pc + 3) lv (.ref (ga g 27 3) :: st) M) : Kj g X nL pc lv (.ref (ga g 27 0) :: st) M := kj_get C rc_27.1 rc_27.2 ing_X10 (k := 3) (by decide) fl_X10_16 (by decide) (rfl) hd kk
theorem fl_X10_19 : Cond.fieldLink RX10 19 "JealousChoirModel" (TX10 4).2.1 (TX10 4).2.2.1 ∈ gW := gw_mk (i := 776) (by decide +kernel) rfl
theorem gf_X10_19 (C : Cx g X cc RX10 nL d) (hd : decode cc pc = .ok (.getfield 19, 3)) (kk : Kj g X nL (pc + 3) lv (.ref (ga g 27 4) :: st) M) : Kj g X nL pc lv (.ref (ga g 27 0) :: st) M := kj_get C rc_27.1 rc_27.2 ing_X10 (k := 4) (by decide) fl_X10_19 (by decide) (rfl) hd kk
theorem fl_X10_22 : Cond.fieldLink RX10 22 "JealousChoirModel" (TX10 5).2.1 (TX10 5).2.2.1 ∈ gW := gw_mk (i := 777) (by decide +kernel) rfl
theorem gf_X10_22 (C : Cx g X cc RX10 nL d) (hd : decode cc pc = .ok (.getfield 22, 3)) (kk : Kj g X nL (pc + 3) lv (.ref (ga g 27 5) :: st) M) : Kj g X nL pc lv (.ref (ga g 27 0) :: st) M := kj_get C rc_27.1 rc_27.2 ing_X10 (k := 5) (by decide) fl_X10_22 (by decide) (rfl) hd kk
theorem fl_X10_25 : Cond.fieldLink RX10 25 "JealousChoirModel" (TX10 8).2.1 (TX10 8).2.2.1 ∈ gW := gw_mk (i := 780) (by decide +kernel) rfl
theorem gf_X10_25 (C : Cx g X cc RX10 nL d) (hd : decode cc pc = .ok (.getfield 25, 3)) (kk : Kj g X nL (pc + 3) lv (.ref (ga g 27 6) :: st) M) : Kj g X nL pc lv (.ref (ga g 27 0) :: st) M := kj_get C rc_27.1 rc_27.2 ing_X10 (k := 8) (by decide) fl_X10_25 (by decide) (rfl) hd kk
theorem fl_X10_28 : Cond.fieldLink RX10 28 "JealousChoirModel" (TX10 12).2.1 (TX10 12).2.2.1 ∈ gW := gw_mk (i := 784) (by decide +kernel) rfl
theorem gf_X10_28 (C : Cx g X cc RX10 nL d) (hd : decode cc pc = .ok (.getfield 28, 3)) (kk : Kj g X nL (pc + 3) lv (.int (M.1 27 0 12) :: st) M) : Kj g X nL pc lv (.ref (ga g 27 0) :: st) M := kj_get C rc_27.1 rc_27.2 ing_X10 (k := 12) (by decide) fl_X10_28 (by decide) (rfl) hd kk
theorem pf_X10_28 (C : Cx g X cc RX10 nL d) {x : Int32} (hd : decode cc pc = .ok (.putfield 28, 3)) (kk : Kj g X nL (pc + 3) lv st (sw M 27 0 12 x)) : Kj g X nL pc lv (.int x :: .ref (ga g 27 0) :: st) M := kj_put C rc_27.1 rc_27.2 ing_X10 tyX10_ok nmX10 (k := 12) (by decide) fl_X10_28 (by decide) (by decide) (ty := .int) (by decide +kernel) rfl rfl (Nat.le_of_ble_eq_true rfl) cel_sr (rfl) hd kk
theorem fl_X10_32 : Cond.fieldLink RX10 32 "JealousChoirModel" (TX10 13).2.1 (TX10 13).2.2.1 ∈ gW := gw_mk (i := 785) (by decide +kernel) rfl
theorem gf_X10_32 (C : Cx g X cc RX10 nL d) (hd : decode cc pc = .ok (.getfield 32, 3)) (kk : Kj g X nL (pc + 3) lv (.ref (ga g 27 7) :: st) M) : Kj g X nL pc lv (.ref (ga g 27 0) :: st) M := kj_get C rc_27.1 rc_27.2 ing_X10 (k := 13) (by decide) fl_X10_32 (by decide) (rfl) hd kk
theorem fl_X10_35 : Cond.fieldLink RX10 35 "JealousChoirModel" (TX10 16).2.1 (TX10 16).2.2.1 ∈ gW := gw_mk (i := 788) (by decide +kernel) rfl
theorem gf_X10_35 (C : Cx g X cc RX10 nL d) (hd : decode cc pc = .ok (.getfield 35, 3)) (kk : Kj g X nL (pc + 3) lv (.ref (ga g 27 8) :: st) M) : Kj g X nL pc lv (.ref (ga g 27 0) :: st) M := kj_get C rc_27.1 rc_27.2 ing_X10 (k := 16) (by decide) fl_X10_35 (by decide) (rfl) hd kk
theorem fl_X10_38 : Cond.fieldLink RX10 38 "JealousChoirModel" (TX10 17).2.1 (TX10 17).2.2.1 ∈ gW := gw_mk (i := 789) (by decide +kernel) rfl
theorem gf_X10_38 (C : Cx g X cc RX10 nL d) (hd : decode cc pc = .ok (.getfield 38, 3)) (kk : Kj g X nL (pc + 3) lv (.ref (ga g 27 9) :: st) M) : Kj g X nL pc lv (.ref (ga g 27 0) :: st) M := kj_get C rc_27.1 rc_27.2 ing_X10 (k := 17) (by decide) fl_X10_38 (by decide) (rfl) hd kk
theorem fl_X10_41 : Cond.fieldLink RX10 41 "JealousChoirModel" (TX10 19).2.1 (TX10 19).2.2.1 ∈ gW := gw_mk (i := 791) (by decide +kernel) rfl
theorem gf_X10_41 (C : Cx g X cc RX10 nL d) (hd : decode cc pc = .ok (.getfield 41, 3)) (kk : Kj g X nL (pc + 3) lv (.ref (ga g 27 10) :: st) M) : Kj g X nL pc lv (.ref (ga g 27 0) :: st) M := kj_get C rc_27.1 rc_27.2 ing_X10 (k := 19) (by decide) fl_X10_41 (by decide) (rfl) hd kk
theorem fl_X10_44 : Cond.fieldLink RX10 44 "JealousChoirModel" (TX10 20).2.1 (TX10 20).2.2.1 ∈ gW := gw_mk (i := 792) (by decide +kernel) rfl
theorem gf_X10_44 (C : Cx g X cc RX10 nL d) (hd : decode cc pc = .ok (.getfield 44, 3)) (kk : Kj g X nL (pc + 3) lv (.ref (ga g 27 11) :: st) M) : Kj g X nL pc lv (.ref (ga g 27 0) :: st) M := kj_get C rc_27.1 rc_27.2 ing_X10 (k := 20) (by decide) fl_X10_44 (by decide) (rfl) hd kk
theorem fl_X10_47 : Cond.fieldLink RX10 47 "JealousChoirModel" (TX10 21).2.1 (TX10 21).2.2.1 ∈ gW := gw_mk (i := 793) (by decide +kernel) rfl
theorem gf_X10_47 (C : Cx g X cc RX10 nL d) (hd : decode cc pc = .ok (.getfield 47, 3)) (kk : Kj g X nL (pc + 3) lv (.ref (ga g 27 12) :: st) M) : Kj g X nL pc lv (.ref (ga g 27 0) :: st) M := kj_get C rc_27.1 rc_27.2 ing_X10 (k := 21) (by decide) fl_X10_47 (by decide) (rfl) hd kk
theorem fl_X10_50 : Cond.fieldLink RX10 50 "JealousChoirModel" (TX10 23).2.1 (TX10 23).2.2.1 ∈ gW := gw_mk (i := 795) (by decide +kernel) rfl
theorem gf_X10_50 (C : Cx g X cc RX10 nL d) (hd : decode cc pc = .ok (.getfield 50, 3)) (kk : Kj g X nL (pc + 3) lv (.ref (ga g 27 13) :: st) M) : Kj g X nL pc lv (.ref (ga g 27 0) :: st) M := kj_get C rc_27.1 rc_27.2 ing_X10 (k := 23) (by decide) fl_X10_50 (by decide) (rfl) hd kk
theorem fl_X10_54 : Cond.fieldLink RX10 54 "JealousChoirModel" (TX10 24).2.1 (TX10 24).2.2.1 ∈ gW := gw_mk (i := 796) (by decide +kernel) rfl
theorem gf_X10_54 (C : Cx g X cc RX10 nL d) (hd : decode cc pc = .ok (.getfield 54, 3)) (kk : Kj g X nL (pc + 3) lv (.ref (ga g 27 14) :: st) M) : Kj g X nL pc lv (.ref (ga g 27 0) :: st) M := kj_get C rc_27.1 rc_27.2 ing_X10 (k := 24) (by decide) fl_X10_54 (by decide) (rfl) hd kk
theorem fl_X10_63 : Cond.fieldLink RX10 63 "JealousChoirModel" (TX10 9).2.1 (TX10 9).2.2.1 ∈ gW := gw_mk (i := 781) (by decide +kernel) rfl
theorem gf_X10_63 (C : Cx g X cc RX10 nL d) (hd : decode cc pc = .ok (.getfield 63, 3)) (kk : Kj g X nL (pc + 3) lv (.int (M.1 27 0 9) :: st) M) : Kj g X nL pc lv (.ref (ga g 27 0) :: st) M := kj_get C rc_27.1 rc_27.2 ing_X10 (k := 9) (by decide) fl_X10_63 (by decide) (rfl) hd kk
theorem pf_X10_63 (C : Cx g X cc RX10 nL d) {x : Int32} (hd : decode cc pc = .ok (.putfield 63, 3)) (kk : Kj g X nL (pc + 3) lv st (sw M 27 0 9 x)) : Kj g X nL pc lv (.int x :: .ref (ga g 27 0) :: st) M := kj_put C rc_27.1 rc_27.2 ing_X10 tyX10_ok nmX10 (k := 9) (by decide) fl_X10_63 (by decide) (by decide) (ty := .int) (by decide +kernel) rfl rfl (Nat.le_of_ble_eq_true rfl) cel_sr (rfl) hd kk
theorem fl_X10_66 : Cond.fieldLink RX10 66 "JealousChoirModel" (TX10 11).2.1 (TX10 11).2.2.1 ∈ gW := gw_mk (i := 783) (by decide +kernel) rfl
theorem gf_X10_66 (C : Cx g X cc RX10 nL d) (hd : decode cc pc = .ok (.getfield 66, 3)) (kk : Kj g X nL (pc + 3) lv (.int (M.1 27 0 11) :: st) M) : Kj g X nL pc lv (.ref (ga g 27 0) :: st) M := kj_get C rc_27.1 rc_27.2 ing_X10 (k := 11) (by decide) fl_X10_66 (by decide) (rfl) hd kk
theorem pf_X10_66 (C : Cx g X cc RX10 nL d) {x : Int32} (hd : decode cc pc = .ok (.putfield 66, 3)) (kk : Kj g X nL (pc + 3) lv st (sw M 27 0 11 x)) : Kj g X nL pc lv (.int x :: .ref (ga g 27 0) :: st) M := kj_put C rc_27.1 rc_27.2 ing_X10 tyX10_ok nmX10 (k := 11) (by decide) fl_X10_66 (by decide) (by decide) (ty := .int) (by decide +kernel) rfl rfl (Nat.le_of_ble_eq_true rfl) cel_sr (rfl) hd kk
theorem fl_X10_69 : Cond.fieldLink RX10 69 "JealousChoirModel" (TX10 10).2.1 (TX10 10).2.2.1 ∈ gW := gw_mk (i := 782) (by decide +kernel) rfl
theorem gf_X10_69 (C : Cx g X cc RX10 nL d) (hd : decode cc pc = .ok (.getfield 69, 3)) (kk : Kj g X nL (pc + 3) lv (.int (M.1 27 0 10) :: st) M) : Kj g X nL pc lv (.ref (ga g 27 0) :: st) M := kj_get C rc_27.1 rc_27.2 ing_X10 (k := 10) (by decide) fl_X10_69 (by decide) (rfl) hd kk
theorem pf_X10_69 (C : Cx g X cc RX10 nL d) {x : Int32} (hd : decode cc pc = .ok (.putfield 69, 3)) (kk : Kj g X nL (pc + 3) lv st (sw M 27 0 10 x)) : Kj g X nL pc lv (.int x :: .ref (ga g 27 0) :: st) M := kj_put C rc_27.1 rc_27.2 ing_X10 tyX10_ok nmX10 (k := 10) (by decide) fl_X10_69 (by decide) (by decide) (ty := .int) (by decide +kernel) rfl rfl (Nat.le_of_ble_eq_true rfl) cel_sr (rfl) hd kk
theorem fl_X10_78 : Cond.fieldLink RX10 78 "JealousChoirModel" (TX10 6).2.1 (TX10 6).2.2.1 ∈ gW := gw_mk (i := 778) (by decide +kernel) rfl
theorem gf_X10_78 (C : Cx g X cc RX10 nL d) (hd : decode cc pc = .ok (.getfield 78, 3)) (kk : Kj g X nL (pc + 3) lv (.int (M.1 27 0 6) :: st) M) : Kj g X nL pc lv (.ref (ga g 27 0) :: st) M := kj_get C rc_27.1 rc_27.2 ing_X10 (k := 6) (by decide) fl_X10_78 (by decide) (rfl) hd kk
theorem pf_X10_78 (C : Cx g X cc RX10 nL d) {x : Int32} (hd : decode cc pc = .ok (.putfield 78, 3)) (kk : Kj g X nL (pc + 3) lv st (sw M 27 0 6 x)) : Kj g X nL pc lv (.int x :: .ref (ga g 27 0) :: st) M := kj_put C rc_27.1 rc_27.2 ing_X10 tyX10_ok nmX10 (k := 6) (by decide) fl_X10_78 (by decide) (by decide) (ty := .int) (by decide +kernel) rfl rfl (Nat.le_of_ble_eq_true rfl) cel_sr (rfl) hd kk
theorem fl_X10_81 : Cond.fieldLink RX10 81 "JealousChoirModel" (TX10 7).2.1 (TX10 7).2.2.1 ∈ gW := gw_mk (i := 779) (by decide +kernel) rfl
theorem gf_X10_81 (C : Cx g X cc RX10 nL d) (hd : decode cc pc = .ok (.getfield 81, 3)) (kk : Kj g X nL (pc + 3) lv (.int (M.1 27 0 7) :: st) M) : Kj g X nL pc lv (.ref (ga g 27 0) :: st) M := kj_get C rc_27.1 rc_27.2 ing_X10 (k := 7) (by decide) fl_X10_81 (by decide) (rfl) hd kk
theorem pf_X10_81 (C : Cx g X cc RX10 nL d) {x : Int32} (hd : decode cc pc = .ok (.putfield 81, 3)) (kk : Kj g X nL (pc + 3) lv st (sw M 27 0 7 x)) : Kj g X nL pc lv (.int x :: .ref (ga g 27 0) :: st) M := kj_put C rc_27.1 rc_27.2 ing_X10 tyX10_ok nmX10 (k := 7) (by decide) fl_X10_81 (by decide) (by decide) (ty := .int) (by decide +kernel) rfl rfl (Nat.le_of_ble_eq_true rfl) cel_sr (rfl) hd kk
theorem fl_X10_96 : Cond.fieldLink RX10 96 "JealousChoirModel" (TX10 0).2.1 (TX10 0).2.2.1 ∈ gW := gw_mk (i := 772) (by decide +kernel) rfl
theorem gf_X10_96 (C : Cx g X cc RX10 nL d) (hd : decode cc pc = .ok (.getfield 96, 3)) (kk : Kj g X nL (pc + 3) lv (.int (M.1 27 0 0) :: st) M) : Kj g X nL pc lv (.ref (ga g 27 0) :: st) M := kj_get C rc_27.1 rc_27.2 ing_X10 (k := 0) (by decide) fl_X10_96 (by decide) (rfl) hd kk
theorem pf_X10_96 (C : Cx g X cc RX10 nL d) {x : Int32} (hd : decode cc pc = .ok (.putfield 96, 3)) (kk : Kj g X nL (pc + 3) lv st (sw M 27 0 0 x)) : Kj g X nL pc lv (.int x :: .ref (ga g 27 0) :: st) M := kj_put C rc_27.1 rc_27.2 ing_X10 tyX10_ok nmX10 (k := 0) (by decide) fl_X10_96 (by decide) (by decide) (ty := .int) (by decide +kernel) rfl rfl (Nat.le_of_ble_eq_true rfl) cel_sr (rfl) hd kk
theorem fl_X10_99 : Cond.fieldLink RX10 99 "JealousChoirModel" (TX10 14).2.1 (TX10 14).2.2.1 ∈ gW := gw_mk (i := 786) (by decide +kernel) rfl
theorem gf_X10_99 (C : Cx g X cc RX10 nL d) (hd : decode cc pc = .ok (.getfield 99, 3)) (kk : Kj g X nL (pc + 3) lv (.int (M.1 27 0 14) :: st) M) : Kj g X nL pc lv (.ref (ga g 27 0) :: st) M := kj_get C rc_27.1 rc_27.2 ing_X10 (k := 14) (by decide) fl_X10_99 (by decide) (rfl) hd kk
theorem pf_X10_99 (C : Cx g X cc RX10 nL d) {x : Int32} (hd : decode cc pc = .ok (.putfield 99, 3)) (kk : Kj g X nL (pc + 3) lv st (sw M 27 0 14 x)) : Kj g X nL pc lv (.int x :: .ref (ga g 27 0) :: st) M := kj_put C rc_27.1 rc_27.2 ing_X10 tyX10_ok nmX10 (k := 14) (by decide) fl_X10_99 (by decide) (by decide) (ty := .int) (by decide +kernel) rfl rfl (Nat.le_of_ble_eq_true rfl) cel_sr (rfl) hd kk
theorem fl_X10_128 : Cond.fieldLink RX10 128 "JealousChoirModel" (TX10 15).2.1 (TX10 15).2.2.1 ∈ gW := gw_mk (i := 787) (by decide +kernel) rfl
theorem gf_X10_128 (C : Cx g X cc RX10 nL d) (hd : decode cc pc = .ok (.getfield 128, 3)) (kk : Kj g X nL (pc + 3) lv (.int (M.1 27 0 15) :: st) M) : Kj g X nL pc lv (.ref (ga g 27 0) :: st) M := kj_get C rc_27.1 rc_27.2 ing_X10 (k := 15) (by decide) fl_X10_128 (by decide) (rfl) hd kk
theorem pf_X10_128 (C : Cx g X cc RX10 nL d) {x : Int32} (hd : decode cc pc = .ok (.putfield 128, 3)) (kk : Kj g X nL (pc + 3) lv st (sw M 27 0 15 x)) : Kj g X nL pc lv (.int x :: .ref (ga g 27 0) :: st) M := kj_put C rc_27.1 rc_27.2 ing_X10 tyX10_ok nmX10 (k := 15) (by decide) fl_X10_128 (by decide) (by decide) (ty := .int) (by decide +kernel) rfl rfl (Nat.le_of_ble_eq_true rfl) cel_sr (rfl) hd kk
theorem fl_X10_187 : Cond.fieldLink RX10 187 "JealousChoirModel" (TX10 18).2.1 (TX10 18).2.2.1 ∈ gW := gw_mk (i := 790) (by decide +kernel) rfl
theorem gf_X10_187 (C : Cx g X cc RX10 nL d) (hd : decode cc pc = .ok (.getfield 187, 3)) (kk : Kj g X nL (pc + 3) lv (.int (M.1 27 0 18) :: st) M) : Kj g X nL pc lv (.ref (ga g 27 0) :: st) M := kj_get C rc_27.1 rc_27.2 ing_X10 (k := 18) (by decide) fl_X10_187 (by decide) (rfl) hd kk
theorem pf_X10_187 (C : Cx g X cc RX10 nL d) {x : Int32} (hd : decode cc pc = .ok (.putfield 187, 3)) (kk : Kj g X nL (pc + 3) lv st (sw M 27 0 18 x)) : Kj g X nL pc lv (.int x :: .ref (ga g 27 0) :: st) M := kj_put C rc_27.1 rc_27.2 ing_X10 tyX10_ok nmX10 (k := 18) (by decide) fl_X10_187 (by decide) (by decide) (ty := .int) (by decide +kernel) rfl rfl (Nat.le_of_ble_eq_true rfl) cel_sr (rfl) hd kk
theorem fl_X10_214 : Cond.fieldLink RX10 214 "JealousChoirModel" (TX10 22).2.1 (TX10 22).2.2.1 ∈ gW := gw_mk (i := 794) (by decide +kernel) rfl
theorem gf_X10_214 (C : Cx g X cc RX10 nL d) (hd : decode cc pc = .ok (.getfield 214, 3)) (kk : Kj g X nL (pc + 3) lv (.long (M.2 27) :: st) M) : Kj g X nL pc lv (.ref (ga g 27 0) :: st) M := kj_get C rc_27.1 rc_27.2 ing_X10 (k := 22) (by decide) fl_X10_214 (by decide) (rfl) hd kk
theorem pf_X10_214 (C : Cx g X cc RX10 nL d) {x : Int64} (hd : decode cc pc = .ok (.putfield 214, 3)) (kk : Kj g X nL (pc + 3) lv st (sl M 27 x)) : Kj g X nL pc lv (.long x :: .ref (ga g 27 0) :: st) M := kj_put C rc_27.1 rc_27.2 ing_X10 tyX10_ok nmX10 (k := 22) (by decide) fl_X10_214 (by decide) (by decide) (ty := .long) (by decide +kernel) rfl rfl (Nat.le_of_ble_eq_true rfl) cel_sl (rfl) hd kk
theorem fl_X2_9 : Cond.fieldLink RX2 9 "JealousChoir$Forecast" (TX2 3).2.1 (TX2 3).2.2.1 ∈ gW := gw_mk (i := 263) (by decide +kernel) rfl
theorem gf_X2_9 (C : Cx g X cc RX2 nL d) (hd : decode cc pc = .ok (.getfield 9, 3)) (kk : Kj g X nL (pc + 3) lv (.ref (ga g 24 1) :: st) M) : Kj g X nL pc lv (.ref (ga g 24 0) :: st) M := kj_get C rc_24.1 rc_24.2 ing_X2 (k := 3) (by decide) fl_X2_9 (by decide) (rfl) hd kk
theorem fl_X2_15 : Cond.fieldLink RX2 15 "JealousChoir$Forecast" (TX2 0).2.1 (TX2 0).2.2.1 ∈ gW := gw_mk (i := 260) (by decide +kernel) rfl
theorem gf_X2_15 (C : Cx g X cc RX2 nL d) (hd : decode cc pc = .ok (.getfield 15, 3)) (kk : Kj g X nL (pc + 3) lv (.ref (ga g 19 0) :: st) M) : Kj g X nL pc lv (.ref (ga g 24 0) :: st) M := kj_get C rc_24.1 rc_24.2 ing_X2 (k := 0) (by decide) fl_X2_15 (by decide) (rfl) hd kk
theorem fl_X2_19 : Cond.fieldLink RX2 19 "JealousChoir$Forecast" (TX2 1).2.1 (TX2 1).2.2.1 ∈ gW := gw_mk (i := 261) (by decide +kernel) rfl
theorem gf_X2_19 (C : Cx g X cc RX2 nL d) (hd : decode cc pc = .ok (.getfield 19, 3)) (kk : Kj g X nL (pc + 3) lv (.ref (ga g 0 0) :: st) M) : Kj g X nL pc lv (.ref (ga g 24 0) :: st) M := kj_get C rc_24.1 rc_24.2 ing_X2 (k := 1) (by decide) fl_X2_19 (by decide) (rfl) hd kk
theorem fl_X2_23 : Cond.fieldLink RX2 23 "JealousChoir$Forecast" (TX2 2).2.1 (TX2 2).2.2.1 ∈ gW := gw_mk (i := 262) (by decide +kernel) rfl
theorem gf_X2_23 (C : Cx g X cc RX2 nL d) (hd : decode cc pc = .ok (.getfield 23, 3)) (kk : Kj g X nL (pc + 3) lv (.ref (ga g 1 0) :: st) M) : Kj g X nL pc lv (.ref (ga g 24 0) :: st) M := kj_get C rc_24.1 rc_24.2 ing_X2 (k := 2) (by decide) fl_X2_23 (by decide) (rfl) hd kk
theorem fl_X2_36 : Cond.fieldLinkNest RX2 36 "JealousChoir$Stand" (TX7 3).2.1 (TX7 3).2.2.1 "JealousChoir" ∈ nW := nw_mk (i := 169) (by decide +kernel) rfl
theorem gf_X2_36 (C : Cx g X cc RX2 nL d) {o : Nat} (ho : o < 18) (hd : decode cc pc = .ok (.getfield 36, 3)) (kk : Kj g X nL (pc + 3) lv (.ref (ga g o 3) :: st) M) : Kj g X nL pc lv (.ref (ga g o 0) :: st) M := kj_getN C (rc_st ho).1 (rc_st ho).2 ing_X7 (k := 3) (by decide) fl_X2_36 (by decide) (by rw [flds_st ho]; rfl) hd kk
theorem fl_X2_50 : Cond.fieldLinkNest RX2 50 "JealousChoir$Roll" (TX4 3).2.1 (TX4 3).2.2.1 "JealousChoir" ∈ nW := nw_mk (i := 144) (by decide +kernel) rfl
theorem gf_X2_50 (C : Cx g X cc RX2 nL d) (hd : decode cc pc = .ok (.getfield 50, 3)) (kk : Kj g X nL (pc + 3) lv (.int (M.1 19 0 3) :: st) M) : Kj g X nL pc lv (.ref (ga g 19 0) :: st) M := kj_getN C rc_19.1 rc_19.2 ing_X4 (k := 3) (by decide) fl_X2_50 (by decide) (rfl) hd kk
theorem fl_X2_91 : Cond.fieldLinkNest RX2 91 "JealousChoir$Stand" (TX7 2).2.1 (TX7 2).2.2.1 "JealousChoir" ∈ nW := nw_mk (i := 167) (by decide +kernel) rfl
theorem gf_X2_91 (C : Cx g X cc RX2 nL d) {o : Nat} (ho : o < 18) (hd : decode cc pc = .ok (.getfield 91, 3)) (kk : Kj g X nL (pc + 3) lv (.ref (ga g o 2) :: st) M) : Kj g X nL pc lv (.ref (ga g o 0) :: st) M := kj_getN C (rc_st ho).1 (rc_st ho).2 ing_X7 (k := 2) (by decide) fl_X2_91 (by decide) (by rw [flds_st ho]; rfl) hd kk
theorem fl_X3_9 : Cond.fieldLink RX3 9 "JealousChoir$Hearsay" (TX3 0).2.1 (TX3 0).2.2.1 ∈ gW := gw_mk (i := 240) (by decide +kernel) rfl
theorem gf_X3_9 (C : Cx g X cc RX3 nL d) (hd : decode cc pc = .ok (.getfield 9, 3)) (kk : Kj g X nL (pc + 3) lv (.ref (ga g 23 1) :: st) M) : Kj g X nL pc lv (.ref (ga g 23 0) :: st) M := kj_get C rc_23.1 rc_23.2 ing_X3 (k := 0) (by decide) fl_X3_9 (by decide) (rfl) hd kk
theorem fl_X3_15 : Cond.fieldLink RX3 15 "JealousChoir$Hearsay" (TX3 1).2.1 (TX3 1).2.2.1 ∈ gW := gw_mk (i := 241) (by decide +kernel) rfl
theorem gf_X3_15 (C : Cx g X cc RX3 nL d) (hd : decode cc pc = .ok (.getfield 15, 3)) (kk : Kj g X nL (pc + 3) lv (.ref (ga g 23 2) :: st) M) : Kj g X nL pc lv (.ref (ga g 23 0) :: st) M := kj_get C rc_23.1 rc_23.2 ing_X3 (k := 1) (by decide) fl_X3_15 (by decide) (rfl) hd kk
theorem fl_X3_18 : Cond.fieldLink RX3 18 "JealousChoir$Hearsay" (TX3 2).2.1 (TX3 2).2.2.1 ∈ gW := gw_mk (i := 242) (by decide +kernel) rfl
theorem gf_X3_18 (C : Cx g X cc RX3 nL d) (hd : decode cc pc = .ok (.getfield 18, 3)) (kk : Kj g X nL (pc + 3) lv (.ref (ga g 23 3) :: st) M) : Kj g X nL pc lv (.ref (ga g 23 0) :: st) M := kj_get C rc_23.1 rc_23.2 ing_X3 (k := 2) (by decide) fl_X3_18 (by decide) (rfl) hd kk
theorem fl_X3_21 : Cond.fieldLink RX3 21 "JealousChoir$Hearsay" (TX3 3).2.1 (TX3 3).2.2.1 ∈ gW := gw_mk (i := 243) (by decide +kernel) rfl
theorem gf_X3_21 (C : Cx g X cc RX3 nL d) (hd : decode cc pc = .ok (.getfield 21, 3)) (kk : Kj g X nL (pc + 3) lv (.int (M.1 23 0 3) :: st) M) : Kj g X nL pc lv (.ref (ga g 23 0) :: st) M := kj_get C rc_23.1 rc_23.2 ing_X3 (k := 3) (by decide) fl_X3_21 (by decide) (rfl) hd kk
theorem pf_X3_21 (C : Cx g X cc RX3 nL d) {x : Int32} (hd : decode cc pc = .ok (.putfield 21, 3)) (kk : Kj g X nL (pc + 3) lv st (sw M 23 0 3 x)) : Kj g X nL pc lv (.int x :: .ref (ga g 23 0) :: st) M := kj_put C rc_23.1 rc_23.2 ing_X3 tyX3_ok nmX3 (k := 3) (by decide) fl_X3_21 (by decide) (by decide) (ty := .int) (by decide +kernel) rfl rfl (Nat.le_of_ble_eq_true rfl) cel_sr (rfl) hd kk
theorem fl_X3_31 : Cond.fieldLinkNest RX3 31 "JealousChoir$Stand" (TX7 3).2.1 (TX7 3).2.2.1 "JealousChoir" ∈ nW := nw_mk (i := 170) (by decide +kernel) rfl
theorem gf_X3_31 (C : Cx g X cc RX3 nL d) {o : Nat} (ho : o < 18) (hd : decode cc pc = .ok (.getfield 31, 3)) (kk : Kj g X nL (pc + 3) lv (.ref (ga g o 3) :: st) M) : Kj g X nL pc lv (.ref (ga g o 0) :: st) M := kj_getN C (rc_st ho).1 (rc_st ho).2 ing_X7 (k := 3) (by decide) fl_X3_31 (by decide) (by rw [flds_st ho]; rfl) hd kk
theorem fl_X4_21 : Cond.fieldLink RX4 21 "JealousChoir$Roll" (TX4 3).2.1 (TX4 3).2.2.1 ∈ gW := gw_mk (i := 140) (by decide +kernel) rfl
theorem gf_X4_21 (C : Cx g X cc RX4 nL d) (hd : decode cc pc = .ok (.getfield 21, 3)) (kk : Kj g X nL (pc + 3) lv (.int (M.1 19 0 3) :: st) M) : Kj g X nL pc lv (.ref (ga g 19 0) :: st) M := kj_get C rc_19.1 rc_19.2 ing_X4 (k := 3) (by decide) fl_X4_21 (by decide) (rfl) hd kk
theorem fl_X5_9 : Cond.fieldLink RX5 9 "JealousChoir$Script" (TX5 0).2.1 (TX5 0).2.2.1 ∈ gW := gw_mk (i := 112) (by decide +kernel) rfl
theorem gf_X5_9 (C : Cx g X cc RX5 nL d) (hd : decode cc pc = .ok (.getfield 9, 3)) (kk : Kj g X nL (pc + 3) lv (.ref (ga g 18 1) :: st) M) : Kj g X nL pc lv (.ref (ga g 18 0) :: st) M := kj_get C rc_18.1 rc_18.2 ing_X5 (k := 0) (by decide) fl_X5_9 (by decide) (rfl) hd kk
theorem fl_X5_15 : Cond.fieldLink RX5 15 "JealousChoir$Script" (TX5 1).2.1 (TX5 1).2.2.1 ∈ gW := gw_mk (i := 113) (by decide +kernel) rfl
theorem gf_X5_15 (C : Cx g X cc RX5 nL d) (hd : decode cc pc = .ok (.getfield 15, 3)) (kk : Kj g X nL (pc + 3) lv (.int (M.1 18 0 1) :: st) M) : Kj g X nL pc lv (.ref (ga g 18 0) :: st) M := kj_get C rc_18.1 rc_18.2 ing_X5 (k := 1) (by decide) fl_X5_15 (by decide) (rfl) hd kk
theorem pf_X5_15 (C : Cx g X cc RX5 nL d) {x : Int32} (hd : decode cc pc = .ok (.putfield 15, 3)) (kk : Kj g X nL (pc + 3) lv st (sw M 18 0 1 x)) : Kj g X nL pc lv (.int x :: .ref (ga g 18 0) :: st) M := kj_put C rc_18.1 rc_18.2 ing_X5 tyX5_ok nmX5 (k := 1) (by decide) fl_X5_15 (by decide) (by decide) (ty := .int) (by decide +kernel) rfl rfl (Nat.le_of_ble_eq_true rfl) cel_sr (rfl) hd kk
theorem fl_X5_36 : Cond.fieldLinkNest RX5 36 "JealousChoir$Roll" (TX4 3).2.1 (TX4 3).2.2.1 "JealousChoir" ∈ nW := nw_mk (i := 143) (by decide +kernel) rfl
theorem gf_X5_36 (C : Cx g X cc RX5 nL d) (hd : decode cc pc = .ok (.getfield 36, 3)) (kk : Kj g X nL (pc + 3) lv (.int (M.1 19 0 3) :: st) M) : Kj g X nL pc lv (.ref (ga g 19 0) :: st) M := kj_getN C rc_19.1 rc_19.2 ing_X4 (k := 3) (by decide) fl_X5_36 (by decide) (rfl) hd kk
theorem pf_X5_36 (C : Cx g X cc RX5 nL d) {x : Int32} (hd : decode cc pc = .ok (.putfield 36, 3)) (kk : Kj g X nL (pc + 3) lv st (sw M 19 0 3 x)) : Kj g X nL pc lv (.int x :: .ref (ga g 19 0) :: st) M := kj_putN C rc_19.1 rc_19.2 ing_X4 tyX4_ok nmX4 (k := 3) (by decide) fl_X5_36 (by decide) (by decide) (ty := .int) (by decide +kernel) rfl rfl (Nat.le_of_ble_eq_true rfl) cel_sr (rfl) hd kk
theorem fl_X5_41 : Cond.fieldLinkNest RX5 41 "JealousChoir$Stand" (TX7 1).2.1 (TX7 1).2.2.1 "JealousChoir" ∈ nW := nw_mk (i := 162) (by decide +kernel) rfl
theorem gf_X5_41 (C : Cx g X cc RX5 nL d) {o : Nat} (ho : o < 18) (hd : decode cc pc = .ok (.getfield 41, 3)) (kk : Kj g X nL (pc + 3) lv (.ref (ga g o 1) :: st) M) : Kj g X nL pc lv (.ref (ga g o 0) :: st) M := kj_getN C (rc_st ho).1 (rc_st ho).2 ing_X7 (k := 1) (by decide) fl_X5_41 (by decide) (by rw [flds_st ho]; rfl) hd kk
theorem fl_X5_46 : Cond.fieldLinkNest RX5 46 "JealousChoir$Roll" (TX4 0).2.1 (TX4 0).2.2.1 "JealousChoir" ∈ nW := nw_mk (i := 128) (by decide +kernel) rfl
theorem gf_X5_46 (C : Cx g X cc RX5 nL d) (hd : decode cc pc = .ok (.getfield 46, 3)) (kk : Kj g X nL (pc + 3) lv (.ref (ga g 19 1) :: st) M) : Kj g X nL pc lv (.ref (ga g 19 0) :: st) M := kj_getN C rc_19.1 rc_19.2 ing_X4 (k := 0) (by decide) fl_X5_46 (by decide) (rfl) hd kk
theorem fl_X5_49 : Cond.fieldLinkNest RX5 49 "JealousChoir$Roll" (TX4 1).2.1 (TX4 1).2.2.1 "JealousChoir" ∈ nW := nw_mk (i := 133) (by decide +kernel) rfl
theorem gf_X5_49 (C : Cx g X cc RX5 nL d) (hd : decode cc pc = .ok (.getfield 49, 3)) (kk : Kj g X nL (pc + 3) lv (.ref (ga g 19 2) :: st) M) : Kj g X nL pc lv (.ref (ga g 19 0) :: st) M := kj_getN C rc_19.1 rc_19.2 ing_X4 (k := 1) (by decide) fl_X5_49 (by decide) (rfl) hd kk
theorem fl_X5_52 : Cond.fieldLinkNest RX5 52 "JealousChoir$Stand" (TX7 2).2.1 (TX7 2).2.2.1 "JealousChoir" ∈ nW := nw_mk (i := 165) (by decide +kernel) rfl
theorem gf_X5_52 (C : Cx g X cc RX5 nL d) {o : Nat} (ho : o < 18) (hd : decode cc pc = .ok (.getfield 52, 3)) (kk : Kj g X nL (pc + 3) lv (.ref (ga g o 2) :: st) M) : Kj g X nL pc lv (.ref (ga g o 0) :: st) M := kj_getN C (rc_st ho).1 (rc_st ho).2 ing_X7 (k := 2) (by decide) fl_X5_52 (by decide) (by rw [flds_st ho]; rfl) hd kk
theorem fl_X5_55 : Cond.fieldLinkNest RX5 55 "JealousChoir$Roll" (TX4 2).2.1 (TX4 2).2.2.1 "JealousChoir" ∈ nW := nw_mk (i := 139) (by decide +kernel) rfl
theorem gf_X5_55 (C : Cx g X cc RX5 nL d) (hd : decode cc pc = .ok (.getfield 55, 3)) (kk : Kj g X nL (pc + 3) lv (.ref (ga g 19 3) :: st) M) : Kj g X nL pc lv (.ref (ga g 19 0) :: st) M := kj_getN C rc_19.1 rc_19.2 ing_X4 (k := 2) (by decide) fl_X5_55 (by decide) (rfl) hd kk
theorem fl_X5_62 : Cond.fieldLinkNest RX5 62 "JealousChoir$Stand" (TX7 5).2.1 (TX7 5).2.2.1 "JealousChoir" ∈ nW := nw_mk (i := 175) (by decide +kernel) rfl
theorem pf_X5_62 (C : Cx g X cc RX5 nL d) {o : Nat} (ho : o < 18) {x : Int32} (hd : decode cc pc = .ok (.putfield 62, 3)) (kk : Kj g X nL (pc + 3) lv st (sw M o 0 5 x)) : Kj g X nL pc lv (.int x :: .ref (ga g o 0) :: st) M := kj_putN C (rc_st ho).1 (rc_st ho).2 ing_X7 tyX7_ok nmX7 (k := 5) (by decide) fl_X5_62 (by decide) (by decide) (ty := .int) (by decide +kernel) rfl rfl (by rw [flds_st ho]; exact Nat.le_of_ble_eq_true rfl) cel_sr (by rw [flds_st ho, flds_st ho, sr_same]; rfl) hd kk
theorem fl_X5_65 : Cond.fieldLinkNest RX5 65 "JealousChoir$Stand" (TX7 6).2.1 (TX7 6).2.2.1 "JealousChoir" ∈ nW := nw_mk (i := 177) (by decide +kernel) rfl
theorem pf_X5_65 (C : Cx g X cc RX5 nL d) {o : Nat} (ho : o < 18) {x : Int32} (hd : decode cc pc = .ok (.putfield 65, 3)) (kk : Kj g X nL (pc + 3) lv st (sw M o 0 6 x)) : Kj g X nL pc lv (.int x :: .ref (ga g o 0) :: st) M := kj_putN C (rc_st ho).1 (rc_st ho).2 ing_X7 tyX7_ok nmX7 (k := 6) (by decide) fl_X5_65 (by decide) (by decide) (ty := .int) (by decide +kernel) rfl rfl (by rw [flds_st ho]; exact Nat.le_of_ble_eq_true rfl) cel_sr (by rw [flds_st ho, flds_st ho, sr_same]; rfl) hd kk
theorem fl_X5_68 : Cond.fieldLinkNest RX5 68 "JealousChoir$Stand" (TX7 7).2.1 (TX7 7).2.2.1 "JealousChoir" ∈ nW := nw_mk (i := 180) (by decide +kernel) rfl
theorem pf_X5_68 (C : Cx g X cc RX5 nL d) {o : Nat} (ho : o < 18) {x : Int32} (hd : decode cc pc = .ok (.putfield 68, 3)) (kk : Kj g X nL (pc + 3) lv st (sw M o 0 7 x)) : Kj g X nL pc lv (.int x :: .ref (ga g o 0) :: st) M := kj_putN C (rc_st ho).1 (rc_st ho).2 ing_X7 tyX7_ok nmX7 (k := 7) (by decide) fl_X5_68 (by decide) (by decide) (ty := .int) (by decide +kernel) rfl rfl (by rw [flds_st ho]; exact Nat.le_of_ble_eq_true rfl) cel_sr (by rw [flds_st ho, flds_st ho, sr_same]; rfl) hd kk
theorem fl_X6_11 : Cond.fieldLink RX6 11 "JealousChoir$Shelf" (TX6 0).2.1 (TX6 0).2.2.1 ∈ gW := gw_mk (i := 227) (by decide +kernel) rfl
theorem gf_X6_11 (C : Cx g X cc RX6 nL d) (hd : decode cc pc = .ok (.getfield 11, 3)) (kk : Kj g X nL (pc + 3) lv (.ref (ga g 22 1) :: st) M) : Kj g X nL pc lv (.ref (ga g 22 0) :: st) M := kj_get C rc_22.1 rc_22.2 ing_X6 (k := 0) (by decide) fl_X6_11 (by decide) (rfl) hd kk
theorem fl_X6_17 : Cond.fieldLink RX6 17 "JealousChoir$Shelf" (TX6 1).2.1 (TX6 1).2.2.1 ∈ gW := gw_mk (i := 228) (by decide +kernel) rfl
theorem gf_X6_17 (C : Cx g X cc RX6 nL d) (hd : decode cc pc = .ok (.getfield 17, 3)) (kk : Kj g X nL (pc + 3) lv (.int (M.1 22 0 1) :: st) M) : Kj g X nL pc lv (.ref (ga g 22 0) :: st) M := kj_get C rc_22.1 rc_22.2 ing_X6 (k := 1) (by decide) fl_X6_17 (by decide) (rfl) hd kk
theorem pf_X6_17 (C : Cx g X cc RX6 nL d) {x : Int32} (hd : decode cc pc = .ok (.putfield 17, 3)) (kk : Kj g X nL (pc + 3) lv st (sw M 22 0 1 x)) : Kj g X nL pc lv (.int x :: .ref (ga g 22 0) :: st) M := kj_put C rc_22.1 rc_22.2 ing_X6 tyX6_ok nmX6 (k := 1) (by decide) fl_X6_17 (by decide) (by decide) (ty := .int) (by decide +kernel) rfl rfl (Nat.le_of_ble_eq_true rfl) cel_sr (rfl) hd kk
theorem fl_X7_9 : Cond.fieldLink RX7 9 "JealousChoir$Stand" (TX7 1).2.1 (TX7 1).2.2.1 ∈ gW := gw_mk (i := 161) (by decide +kernel) rfl
theorem gf_X7_9 (C : Cx g X cc RX7 nL d) {o : Nat} (ho : o < 18) (hd : decode cc pc = .ok (.getfield 9, 3)) (kk : Kj g X nL (pc + 3) lv (.ref (ga g o 1) :: st) M) : Kj g X nL pc lv (.ref (ga g o 0) :: st) M := kj_get C (rc_st ho).1 (rc_st ho).2 ing_X7 (k := 1) (by decide) fl_X7_9 (by decide) (by rw [flds_st ho]; rfl) hd kk
theorem fl_X7_15 : Cond.fieldLink RX7 15 "JealousChoir$Stand" (TX7 2).2.1 (TX7 2).2.2.1 ∈ gW := gw_mk (i := 164) (by decide +kernel) rfl
theorem gf_X7_15 (C : Cx g X cc RX7 nL d) {o : Nat} (ho : o < 18) (hd : decode cc pc = .ok (.getfield 15, 3)) (kk : Kj g X nL (pc + 3) lv (.ref (ga g o 2) :: st) M) : Kj g X nL pc lv (.ref (ga g o 0) :: st) M := kj_get C (rc_st ho).1 (rc_st ho).2 ing_X7 (k := 2) (by decide) fl_X7_15 (by decide) (by rw [flds_st ho]; rfl) hd kk
theorem fl_X7_18 : Cond.fieldLink RX7 18 "JealousChoir$Stand" (TX7 3).2.1 (TX7 3).2.2.1 ∈ gW := gw_mk (i := 168) (by decide +kernel) rfl
theorem gf_X7_18 (C : Cx g X cc RX7 nL d) {o : Nat} (ho : o < 18) (hd : decode cc pc = .ok (.getfield 18, 3)) (kk : Kj g X nL (pc + 3) lv (.ref (ga g o 3) :: st) M) : Kj g X nL pc lv (.ref (ga g o 0) :: st) M := kj_get C (rc_st ho).1 (rc_st ho).2 ing_X7 (k := 3) (by decide) fl_X7_18 (by decide) (by rw [flds_st ho]; rfl) hd kk
theorem fl_X7_21 : Cond.fieldLink RX7 21 "JealousChoir$Stand" (TX7 4).2.1 (TX7 4).2.2.1 ∈ gW := gw_mk (i := 172) (by decide +kernel) rfl
theorem gf_X7_21 (C : Cx g X cc RX7 nL d) {o : Nat} (ho : o < 18) (hd : decode cc pc = .ok (.getfield 21, 3)) (kk : Kj g X nL (pc + 3) lv (.ref (ga g o 4) :: st) M) : Kj g X nL pc lv (.ref (ga g o 0) :: st) M := kj_get C (rc_st ho).1 (rc_st ho).2 ing_X7 (k := 4) (by decide) fl_X7_21 (by decide) (by rw [flds_st ho]; rfl) hd kk
theorem fl_X7_24 : Cond.fieldLink RX7 24 "JealousChoir$Stand" (TX7 5).2.1 (TX7 5).2.2.1 ∈ gW := gw_mk (i := 173) (by decide +kernel) rfl
theorem gf_X7_24 (C : Cx g X cc RX7 nL d) {o : Nat} (ho : o < 18) (hd : decode cc pc = .ok (.getfield 24, 3)) (kk : Kj g X nL (pc + 3) lv (.int (M.1 o 0 5) :: st) M) : Kj g X nL pc lv (.ref (ga g o 0) :: st) M := kj_get C (rc_st ho).1 (rc_st ho).2 ing_X7 (k := 5) (by decide) fl_X7_24 (by decide) (by rw [flds_st ho]; rfl) hd kk
theorem pf_X7_24 (C : Cx g X cc RX7 nL d) {o : Nat} (ho : o < 18) {x : Int32} (hd : decode cc pc = .ok (.putfield 24, 3)) (kk : Kj g X nL (pc + 3) lv st (sw M o 0 5 x)) : Kj g X nL pc lv (.int x :: .ref (ga g o 0) :: st) M := kj_put C (rc_st ho).1 (rc_st ho).2 ing_X7 tyX7_ok nmX7 (k := 5) (by decide) fl_X7_24 (by decide) (by decide) (ty := .int) (by decide +kernel) rfl rfl (by rw [flds_st ho]; exact Nat.le_of_ble_eq_true rfl) cel_sr (by rw [flds_st ho, flds_st ho, sr_same]; rfl) hd kk
theorem fl_X7_28 : Cond.fieldLink RX7 28 "JealousChoir$Stand" (TX7 6).2.1 (TX7 6).2.2.1 ∈ gW := gw_mk (i := 176) (by decide +kernel) rfl
theorem gf_X7_28 (C : Cx g X cc RX7 nL d) {o : Nat} (ho : o < 18) (hd : decode cc pc = .ok (.getfield 28, 3)) (kk : Kj g X nL (pc + 3) lv (.int (M.1 o 0 6) :: st) M) : Kj g X nL pc lv (.ref (ga g o 0) :: st) M := kj_get C (rc_st ho).1 (rc_st ho).2 ing_X7 (k := 6) (by decide) fl_X7_28 (by decide) (by rw [flds_st ho]; rfl) hd kk
theorem pf_X7_28 (C : Cx g X cc RX7 nL d) {o : Nat} (ho : o < 18) {x : Int32} (hd : decode cc pc = .ok (.putfield 28, 3)) (kk : Kj g X nL (pc + 3) lv st (sw M o 0 6 x)) : Kj g X nL pc lv (.int x :: .ref (ga g o 0) :: st) M := kj_put C (rc_st ho).1 (rc_st ho).2 ing_X7 tyX7_ok nmX7 (k := 6) (by decide) fl_X7_28 (by decide) (by decide) (ty := .int) (by decide +kernel) rfl rfl (by rw [flds_st ho]; exact Nat.le_of_ble_eq_true rfl) cel_sr (by rw [flds_st ho, flds_st ho, sr_same]; rfl) hd kk
theorem fl_X7_31 : Cond.fieldLink RX7 31 "JealousChoir$Stand" (TX7 7).2.1 (TX7 7).2.2.1 ∈ gW := gw_mk (i := 179) (by decide +kernel) rfl
theorem gf_X7_31 (C : Cx g X cc RX7 nL d) {o : Nat} (ho : o < 18) (hd : decode cc pc = .ok (.getfield 31, 3)) (kk : Kj g X nL (pc + 3) lv (.int (M.1 o 0 7) :: st) M) : Kj g X nL pc lv (.ref (ga g o 0) :: st) M := kj_get C (rc_st ho).1 (rc_st ho).2 ing_X7 (k := 7) (by decide) fl_X7_31 (by decide) (by rw [flds_st ho]; rfl) hd kk
theorem pf_X7_31 (C : Cx g X cc RX7 nL d) {o : Nat} (ho : o < 18) {x : Int32} (hd : decode cc pc = .ok (.putfield 31, 3)) (kk : Kj g X nL (pc + 3) lv st (sw M o 0 7 x)) : Kj g X nL pc lv (.int x :: .ref (ga g o 0) :: st) M := kj_put C (rc_st ho).1 (rc_st ho).2 ing_X7 tyX7_ok nmX7 (k := 7) (by decide) fl_X7_31 (by decide) (by decide) (ty := .int) (by decide +kernel) rfl rfl (by rw [flds_st ho]; exact Nat.le_of_ble_eq_true rfl) cel_sr (by rw [flds_st ho, flds_st ho, sr_same]; rfl) hd kk
theorem fl_X7_34 : Cond.fieldLink RX7 34 "JealousChoir$Stand" (TX7 0).2.1 (TX7 0).2.2.1 ∈ gW := gw_mk (i := 160) (by decide +kernel) rfl
theorem gf_X7_34 (C : Cx g X cc RX7 nL d) {o : Nat} (ho : o < 18) (hd : decode cc pc = .ok (.getfield 34, 3)) (kk : Kj g X nL (pc + 3) lv (.ref (ga g 19 0) :: st) M) : Kj g X nL pc lv (.ref (ga g o 0) :: st) M := kj_get C (rc_st ho).1 (rc_st ho).2 ing_X7 (k := 0) (by decide) fl_X7_34 (by decide) (by rw [flds_st ho]; rfl) hd kk
theorem fl_X7_44 : Cond.fieldLinkNest RX7 44 "JealousChoir$Roll" (TX4 2).2.1 (TX4 2).2.2.1 "JealousChoir" ∈ nW := nw_mk (i := 137) (by decide +kernel) rfl
theorem gf_X7_44 (C : Cx g X cc RX7 nL d) (hd : decode cc pc = .ok (.getfield 44, 3)) (kk : Kj g X nL (pc + 3) lv (.ref (ga g 19 3) :: st) M) : Kj g X nL pc lv (.ref (ga g 19 0) :: st) M := kj_getN C rc_19.1 rc_19.2 ing_X4 (k := 2) (by decide) fl_X7_44 (by decide) (rfl) hd kk
theorem fl_X7_61 : Cond.fieldLinkNest RX7 61 "JealousChoir$Roll" (TX4 0).2.1 (TX4 0).2.2.1 "JealousChoir" ∈ nW := nw_mk (i := 131) (by decide +kernel) rfl
theorem gf_X7_61 (C : Cx g X cc RX7 nL d) (hd : decode cc pc = .ok (.getfield 61, 3)) (kk : Kj g X nL (pc + 3) lv (.ref (ga g 19 1) :: st) M) : Kj g X nL pc lv (.ref (ga g 19 0) :: st) M := kj_getN C rc_19.1 rc_19.2 ing_X4 (k := 0) (by decide) fl_X7_61 (by decide) (rfl) hd kk
theorem fl_X7_64 : Cond.fieldLinkNest RX7 64 "JealousChoir$Roll" (TX4 1).2.1 (TX4 1).2.2.1 "JealousChoir" ∈ nW := nw_mk (i := 135) (by decide +kernel) rfl
theorem gf_X7_64 (C : Cx g X cc RX7 nL d) (hd : decode cc pc = .ok (.getfield 64, 3)) (kk : Kj g X nL (pc + 3) lv (.ref (ga g 19 2) :: st) M) : Kj g X nL pc lv (.ref (ga g 19 0) :: st) M := kj_getN C rc_19.1 rc_19.2 ing_X4 (k := 1) (by decide) fl_X7_64 (by decide) (rfl) hd kk
theorem fl_X8_7 : Cond.fieldLink RX8 7 "JealousChoir$Years" (TX8 2).2.1 (TX8 2).2.2.1 ∈ gW := gw_mk (i := 306) (by decide +kernel) rfl
theorem gf_X8_7 (C : Cx g X cc RX8 nL d) (hd : decode cc pc = .ok (.getfield 7, 3)) (kk : Kj g X nL (pc + 3) lv (.long (M.2 26) :: st) M) : Kj g X nL pc lv (.ref (ga g 26 0) :: st) M := kj_get C rc_26.1 rc_26.2 ing_X8 (k := 2) (by decide) fl_X8_7 (by decide) (rfl) hd kk
theorem pf_X8_7 (C : Cx g X cc RX8 nL d) {x : Int64} (hd : decode cc pc = .ok (.putfield 7, 3)) (kk : Kj g X nL (pc + 3) lv st (sl M 26 x)) : Kj g X nL pc lv (.long x :: .ref (ga g 26 0) :: st) M := kj_put C rc_26.1 rc_26.2 ing_X8 tyX8_ok nmX8 (k := 2) (by decide) fl_X8_7 (by decide) (by decide) (ty := .long) (by decide +kernel) rfl rfl (Nat.le_of_ble_eq_true rfl) cel_sl (rfl) hd kk
theorem fl_X8_13 : Cond.fieldLink RX8 13 "JealousChoir$Years" (TX8 0).2.1 (TX8 0).2.2.1 ∈ gW := gw_mk (i := 304) (by decide +kernel) rfl
theorem gf_X8_13 (C : Cx g X cc RX8 nL d) (hd : decode cc pc = .ok (.getfield 13, 3)) (kk : Kj g X nL (pc + 3) lv (.ref (ga g 0 0) :: st) M) : Kj g X nL pc lv (.ref (ga g 26 0) :: st) M := kj_get C rc_26.1 rc_26.2 ing_X8 (k := 0) (by decide) fl_X8_13 (by decide) (rfl) hd kk
theorem fl_X8_17 : Cond.fieldLink RX8 17 "JealousChoir$Years" (TX8 1).2.1 (TX8 1).2.2.1 ∈ gW := gw_mk (i := 305) (by decide +kernel) rfl
theorem gf_X8_17 (C : Cx g X cc RX8 nL d) (hd : decode cc pc = .ok (.getfield 17, 3)) (kk : Kj g X nL (pc + 3) lv (.ref (ga g 1 0) :: st) M) : Kj g X nL pc lv (.ref (ga g 26 0) :: st) M := kj_get C rc_26.1 rc_26.2 ing_X8 (k := 1) (by decide) fl_X8_17 (by decide) (rfl) hd kk
theorem fl_X9_10 : Cond.fieldLink RX9 10 "JealousChoir" (TX9 0).2.1 (TX9 0).2.2.1 ∈ gW := gw_mk (i := 315) (by decide +kernel) rfl
theorem gf_X9_10 (C : Cx g X cc RX9 nL d) (hd : decode cc pc = .ok (.getfield 10, 3)) (kk : Kj g X nL (pc + 3) lv (.ref (ga g 18 0) :: st) M) : Kj g X nL pc lv (.ref (ga g 20 0) :: st) M := kj_get C rc_20.1 rc_20.2 ing_X9 (k := 0) (by decide) fl_X9_10 (by decide) (rfl) hd kk
theorem fl_X9_19 : Cond.fieldLink RX9 19 "JealousChoir" (TX9 1).2.1 (TX9 1).2.2.1 ∈ gW := gw_mk (i := 316) (by decide +kernel) rfl
theorem gf_X9_19 (C : Cx g X cc RX9 nL d) (hd : decode cc pc = .ok (.getfield 19, 3)) (kk : Kj g X nL (pc + 3) lv (.ref (ga g 19 0) :: st) M) : Kj g X nL pc lv (.ref (ga g 20 0) :: st) M := kj_get C rc_20.1 rc_20.2 ing_X9 (k := 1) (by decide) fl_X9_19 (by decide) (rfl) hd kk
theorem fl_X9_28 : Cond.fieldLink RX9 28 "JealousChoir" (TX9 2).2.1 (TX9 2).2.2.1 ∈ gW := gw_mk (i := 317) (by decide +kernel) rfl
theorem gf_X9_28 (C : Cx g X cc RX9 nL d) (hd : decode cc pc = .ok (.getfield 28, 3)) (kk : Kj g X nL (pc + 3) lv (.ref (ga g 0 0) :: st) M) : Kj g X nL pc lv (.ref (ga g 20 0) :: st) M := kj_get C rc_20.1 rc_20.2 ing_X9 (k := 2) (by decide) fl_X9_28 (by decide) (rfl) hd kk
theorem fl_X9_38 : Cond.fieldLink RX9 38 "JealousChoir" (TX9 4).2.1 (TX9 4).2.2.1 ∈ gW := gw_mk (i := 319) (by decide +kernel) rfl
theorem gf_X9_38 (C : Cx g X cc RX9 nL d) (hd : decode cc pc = .ok (.getfield 38, 3)) (kk : Kj g X nL (pc + 3) lv (.ref (ga g 21 0) :: st) M) : Kj g X nL pc lv (.ref (ga g 20 0) :: st) M := kj_get C rc_20.1 rc_20.2 ing_X9 (k := 4) (by decide) fl_X9_38 (by decide) (rfl) hd kk
theorem fl_X9_45 : Cond.fieldLink RX9 45 "JealousChoir" (TX9 5).2.1 (TX9 5).2.2.1 ∈ gW := gw_mk (i := 320) (by decide +kernel) rfl
theorem gf_X9_45 (C : Cx g X cc RX9 nL d) (hd : decode cc pc = .ok (.getfield 45, 3)) (kk : Kj g X nL (pc + 3) lv (.ref (ga g 22 0) :: st) M) : Kj g X nL pc lv (.ref (ga g 20 0) :: st) M := kj_get C rc_20.1 rc_20.2 ing_X9 (k := 5) (by decide) fl_X9_45 (by decide) (rfl) hd kk
theorem fl_X9_52 : Cond.fieldLink RX9 52 "JealousChoir" (TX9 6).2.1 (TX9 6).2.2.1 ∈ gW := gw_mk (i := 321) (by decide +kernel) rfl
theorem gf_X9_52 (C : Cx g X cc RX9 nL d) (hd : decode cc pc = .ok (.getfield 52, 3)) (kk : Kj g X nL (pc + 3) lv (.ref (ga g 23 0) :: st) M) : Kj g X nL pc lv (.ref (ga g 20 0) :: st) M := kj_get C rc_20.1 rc_20.2 ing_X9 (k := 6) (by decide) fl_X9_52 (by decide) (rfl) hd kk
theorem fl_X9_61 : Cond.fieldLink RX9 61 "JealousChoir" (TX9 7).2.1 (TX9 7).2.2.1 ∈ gW := gw_mk (i := 322) (by decide +kernel) rfl
theorem gf_X9_61 (C : Cx g X cc RX9 nL d) (hd : decode cc pc = .ok (.getfield 61, 3)) (kk : Kj g X nL (pc + 3) lv (.ref (ga g 24 0) :: st) M) : Kj g X nL pc lv (.ref (ga g 20 0) :: st) M := kj_get C rc_20.1 rc_20.2 ing_X9 (k := 7) (by decide) fl_X9_61 (by decide) (rfl) hd kk
theorem fl_X9_68 : Cond.fieldLink RX9 68 "JealousChoir" (TX9 8).2.1 (TX9 8).2.2.1 ∈ gW := gw_mk (i := 323) (by decide +kernel) rfl
theorem gf_X9_68 (C : Cx g X cc RX9 nL d) (hd : decode cc pc = .ok (.getfield 68, 3)) (kk : Kj g X nL (pc + 3) lv (.ref (ga g 25 0) :: st) M) : Kj g X nL pc lv (.ref (ga g 20 0) :: st) M := kj_get C rc_20.1 rc_20.2 ing_X9 (k := 8) (by decide) fl_X9_68 (by decide) (rfl) hd kk
theorem fl_X9_77 : Cond.fieldLink RX9 77 "JealousChoir" (TX9 9).2.1 (TX9 9).2.2.1 ∈ gW := gw_mk (i := 324) (by decide +kernel) rfl
theorem gf_X9_77 (C : Cx g X cc RX9 nL d) (hd : decode cc pc = .ok (.getfield 77, 3)) (kk : Kj g X nL (pc + 3) lv (.ref (ga g 26 0) :: st) M) : Kj g X nL pc lv (.ref (ga g 20 0) :: st) M := kj_get C rc_20.1 rc_20.2 ing_X9 (k := 9) (by decide) fl_X9_77 (by decide) (rfl) hd kk
theorem fl_X9_85 : Cond.fieldLinkNest RX9 85 "JealousChoir$Script" (TX5 1).2.1 (TX5 1).2.2.1 "JealousChoir" ∈ nW := nw_mk (i := 114) (by decide +kernel) rfl
theorem gf_X9_85 (C : Cx g X cc RX9 nL d) (hd : decode cc pc = .ok (.getfield 85, 3)) (kk : Kj g X nL (pc + 3) lv (.int (M.1 18 0 1) :: st) M) : Kj g X nL pc lv (.ref (ga g 18 0) :: st) M := kj_getN C rc_18.1 rc_18.2 ing_X5 (k := 1) (by decide) fl_X9_85 (by decide) (rfl) hd kk
theorem pf_X9_85 (C : Cx g X cc RX9 nL d) {x : Int32} (hd : decode cc pc = .ok (.putfield 85, 3)) (kk : Kj g X nL (pc + 3) lv st (sw M 18 0 1 x)) : Kj g X nL pc lv (.int x :: .ref (ga g 18 0) :: st) M := kj_putN C rc_18.1 rc_18.2 ing_X5 tyX5_ok nmX5 (k := 1) (by decide) fl_X9_85 (by decide) (by decide) (ty := .int) (by decide +kernel) rfl rfl (Nat.le_of_ble_eq_true rfl) cel_sr (rfl) hd kk
theorem fl_X9_101 : Cond.fieldLinkNest RX9 101 "JealousChoir$Roll" (TX4 3).2.1 (TX4 3).2.2.1 "JealousChoir" ∈ nW := nw_mk (i := 142) (by decide +kernel) rfl
theorem gf_X9_101 (C : Cx g X cc RX9 nL d) (hd : decode cc pc = .ok (.getfield 101, 3)) (kk : Kj g X nL (pc + 3) lv (.int (M.1 19 0 3) :: st) M) : Kj g X nL pc lv (.ref (ga g 19 0) :: st) M := kj_getN C rc_19.1 rc_19.2 ing_X4 (k := 3) (by decide) fl_X9_101 (by decide) (rfl) hd kk
theorem fl_X9_107 : Cond.fieldLinkNest RX9 107 "JealousChoir$Stand" (TX7 1).2.1 (TX7 1).2.2.1 "JealousChoir" ∈ nW := nw_mk (i := 163) (by decide +kernel) rfl
theorem gf_X9_107 (C : Cx g X cc RX9 nL d) {o : Nat} (ho : o < 18) (hd : decode cc pc = .ok (.getfield 107, 3)) (kk : Kj g X nL (pc + 3) lv (.ref (ga g o 1) :: st) M) : Kj g X nL pc lv (.ref (ga g o 0) :: st) M := kj_getN C (rc_st ho).1 (rc_st ho).2 ing_X7 (k := 1) (by decide) fl_X9_107 (by decide) (by rw [flds_st ho]; rfl) hd kk
theorem fl_X9_111 : Cond.fieldLinkNest RX9 111 "JealousChoir$Roll" (TX4 0).2.1 (TX4 0).2.2.1 "JealousChoir" ∈ nW := nw_mk (i := 129) (by decide +kernel) rfl
theorem gf_X9_111 (C : Cx g X cc RX9 nL d) (hd : decode cc pc = .ok (.getfield 111, 3)) (kk : Kj g X nL (pc + 3) lv (.ref (ga g 19 1) :: st) M) : Kj g X nL pc lv (.ref (ga g 19 0) :: st) M := kj_getN C rc_19.1 rc_19.2 ing_X4 (k := 0) (by decide) fl_X9_111 (by decide) (rfl) hd kk
theorem fl_X9_114 : Cond.fieldLinkNest RX9 114 "JealousChoir$Roll" (TX4 1).2.1 (TX4 1).2.2.1 "JealousChoir" ∈ nW := nw_mk (i := 134) (by decide +kernel) rfl
theorem gf_X9_114 (C : Cx g X cc RX9 nL d) (hd : decode cc pc = .ok (.getfield 114, 3)) (kk : Kj g X nL (pc + 3) lv (.ref (ga g 19 2) :: st) M) : Kj g X nL pc lv (.ref (ga g 19 0) :: st) M := kj_getN C rc_19.1 rc_19.2 ing_X4 (k := 1) (by decide) fl_X9_114 (by decide) (rfl) hd kk
theorem fl_X9_117 : Cond.fieldLinkNest RX9 117 "JealousChoir$Stand" (TX7 2).2.1 (TX7 2).2.2.1 "JealousChoir" ∈ nW := nw_mk (i := 166) (by decide +kernel) rfl
theorem gf_X9_117 (C : Cx g X cc RX9 nL d) {o : Nat} (ho : o < 18) (hd : decode cc pc = .ok (.getfield 117, 3)) (kk : Kj g X nL (pc + 3) lv (.ref (ga g o 2) :: st) M) : Kj g X nL pc lv (.ref (ga g o 0) :: st) M := kj_getN C (rc_st ho).1 (rc_st ho).2 ing_X7 (k := 2) (by decide) fl_X9_117 (by decide) (by rw [flds_st ho]; rfl) hd kk
theorem fl_X9_120 : Cond.fieldLinkNest RX9 120 "JealousChoir$Roll" (TX4 2).2.1 (TX4 2).2.2.1 "JealousChoir" ∈ nW := nw_mk (i := 138) (by decide +kernel) rfl
theorem gf_X9_120 (C : Cx g X cc RX9 nL d) (hd : decode cc pc = .ok (.getfield 120, 3)) (kk : Kj g X nL (pc + 3) lv (.ref (ga g 19 3) :: st) M) : Kj g X nL pc lv (.ref (ga g 19 0) :: st) M := kj_getN C rc_19.1 rc_19.2 ing_X4 (k := 2) (by decide) fl_X9_120 (by decide) (rfl) hd kk
theorem fl_X9_123 : Cond.fieldLinkNest RX9 123 "JealousChoir$Stand" (TX7 3).2.1 (TX7 3).2.2.1 "JealousChoir" ∈ nW := nw_mk (i := 171) (by decide +kernel) rfl
theorem gf_X9_123 (C : Cx g X cc RX9 nL d) {o : Nat} (ho : o < 18) (hd : decode cc pc = .ok (.getfield 123, 3)) (kk : Kj g X nL (pc + 3) lv (.ref (ga g o 3) :: st) M) : Kj g X nL pc lv (.ref (ga g o 0) :: st) M := kj_getN C (rc_st ho).1 (rc_st ho).2 ing_X7 (k := 3) (by decide) fl_X9_123 (by decide) (by rw [flds_st ho]; rfl) hd kk
theorem fl_X9_151 : Cond.fieldLinkNest RX9 151 "JealousChoir$Stand" (TX7 7).2.1 (TX7 7).2.2.1 "JealousChoir" ∈ nW := nw_mk (i := 181) (by decide +kernel) rfl
theorem gf_X9_151 (C : Cx g X cc RX9 nL d) {o : Nat} (ho : o < 18) (hd : decode cc pc = .ok (.getfield 151, 3)) (kk : Kj g X nL (pc + 3) lv (.int (M.1 o 0 7) :: st) M) : Kj g X nL pc lv (.ref (ga g o 0) :: st) M := kj_getN C (rc_st ho).1 (rc_st ho).2 ing_X7 (k := 7) (by decide) fl_X9_151 (by decide) (by rw [flds_st ho]; rfl) hd kk
theorem pf_X9_151 (C : Cx g X cc RX9 nL d) {o : Nat} (ho : o < 18) {x : Int32} (hd : decode cc pc = .ok (.putfield 151, 3)) (kk : Kj g X nL (pc + 3) lv st (sw M o 0 7 x)) : Kj g X nL pc lv (.int x :: .ref (ga g o 0) :: st) M := kj_putN C (rc_st ho).1 (rc_st ho).2 ing_X7 tyX7_ok nmX7 (k := 7) (by decide) fl_X9_151 (by decide) (by decide) (ty := .int) (by decide +kernel) rfl rfl (by rw [flds_st ho]; exact Nat.le_of_ble_eq_true rfl) cel_sr (by rw [flds_st ho, flds_st ho, sr_same]; rfl) hd kk
theorem fl_X9_174 : Cond.fieldLinkNest RX9 174 "JealousChoir$ActRow" (TX0 2).2.1 (TX0 2).2.2.1 "JealousChoir" ∈ nW := nw_mk (i := 211) (by decide +kernel) rfl
theorem gf_X9_174 (C : Cx g X cc RX9 nL d) (hd : decode cc pc = .ok (.getfield 174, 3)) (kk : Kj g X nL (pc + 3) lv (.int (M.1 21 0 2) :: st) M) : Kj g X nL pc lv (.ref (ga g 21 0) :: st) M := kj_getN C rc_21.1 rc_21.2 ing_X0 (k := 2) (by decide) fl_X9_174 (by decide) (rfl) hd kk
theorem fl_X9_207 : Cond.fieldLinkNest RX9 207 "JealousChoir$Hearsay" (TX3 3).2.1 (TX3 3).2.2.1 "JealousChoir" ∈ nW := nw_mk (i := 244) (by decide +kernel) rfl
theorem gf_X9_207 (C : Cx g X cc RX9 nL d) (hd : decode cc pc = .ok (.getfield 207, 3)) (kk : Kj g X nL (pc + 3) lv (.int (M.1 23 0 3) :: st) M) : Kj g X nL pc lv (.ref (ga g 23 0) :: st) M := kj_getN C rc_23.1 rc_23.2 ing_X3 (k := 3) (by decide) fl_X9_207 (by decide) (rfl) hd kk
theorem pf_X9_207 (C : Cx g X cc RX9 nL d) {x : Int32} (hd : decode cc pc = .ok (.putfield 207, 3)) (kk : Kj g X nL (pc + 3) lv st (sw M 23 0 3 x)) : Kj g X nL pc lv (.int x :: .ref (ga g 23 0) :: st) M := kj_putN C rc_23.1 rc_23.2 ing_X3 tyX3_ok nmX3 (k := 3) (by decide) fl_X9_207 (by decide) (by decide) (ty := .int) (by decide +kernel) rfl rfl (Nat.le_of_ble_eq_true rfl) cel_sr (rfl) hd kk
theorem fl_X9_222 : Cond.fieldLinkNest RX9 222 "JealousChoir$Years" (TX8 2).2.1 (TX8 2).2.2.1 "JealousChoir" ∈ nW := nw_mk (i := 307) (by decide +kernel) rfl
theorem gf_X9_222 (C : Cx g X cc RX9 nL d) (hd : decode cc pc = .ok (.getfield 222, 3)) (kk : Kj g X nL (pc + 3) lv (.long (M.2 26) :: st) M) : Kj g X nL pc lv (.ref (ga g 26 0) :: st) M := kj_getN C rc_26.1 rc_26.2 ing_X8 (k := 2) (by decide) fl_X9_222 (by decide) (rfl) hd kk
theorem pf_X9_222 (C : Cx g X cc RX9 nL d) {x : Int64} (hd : decode cc pc = .ok (.putfield 222, 3)) (kk : Kj g X nL (pc + 3) lv st (sl M 26 x)) : Kj g X nL pc lv (.long x :: .ref (ga g 26 0) :: st) M := kj_putN C rc_26.1 rc_26.2 ing_X8 tyX8_ok nmX8 (k := 2) (by decide) fl_X9_222 (by decide) (by decide) (ty := .long) (by decide +kernel) rfl rfl (Nat.le_of_ble_eq_true rfl) cel_sl (rfl) hd kk
theorem fl_X9_246 : Cond.fieldLinkNest RX9 246 "JealousChoir$Stand" (TX7 6).2.1 (TX7 6).2.2.1 "JealousChoir" ∈ nW := nw_mk (i := 178) (by decide +kernel) rfl
theorem gf_X9_246 (C : Cx g X cc RX9 nL d) {o : Nat} (ho : o < 18) (hd : decode cc pc = .ok (.getfield 246, 3)) (kk : Kj g X nL (pc + 3) lv (.int (M.1 o 0 6) :: st) M) : Kj g X nL pc lv (.ref (ga g o 0) :: st) M := kj_getN C (rc_st ho).1 (rc_st ho).2 ing_X7 (k := 6) (by decide) fl_X9_246 (by decide) (by rw [flds_st ho]; rfl) hd kk
end KT
theorem ml_X0_27 : Cond.methodLinkNest RX0 27 yX7_copyFrom "JealousChoir" ∈ nW := nw_mk (i := 451) (by decide +kernel) rfl
theorem ml_X0_31 : Cond.methodLink RX0 31 Lib.Math.min.name ∈ gW := gw_mk (i := 455) (by decide +kernel) rfl
theorem ml_X1_32 : Cond.methodLinkNest RX1 32 yX7_copyFrom "JealousChoir" ∈ nW := nw_mk (i := 650) (by decide +kernel) rfl
theorem ml_X1_42 : Cond.methodLinkNest RX1 42 yX7_goOn "JealousChoir" ∈ nW := nw_mk (i := 651) (by decide +kernel) rfl
theorem ml_X1_46 : Cond.methodLinkNest RX1 46 yX7_richness "JealousChoir" ∈ nW := nw_mk (i := 652) (by decide +kernel) rfl
theorem ml_X1_50 : Cond.methodLinkNest RX1 50 yX4_everybody "JealousChoir" ∈ nW := nw_mk (i := 645) (by decide +kernel) rfl
theorem ml_X1_55 : Cond.methodLink RX1 55 yX1_richnessOfSome ∈ gW := gw_mk (i := 646) (by decide +kernel) rfl
theorem ml_X1_59 : Cond.methodLink RX1 59 yJ6_bitCount_0f7a4 ∈ gW := gw_mk (i := 653) (by decide +kernel) rfl
theorem ml_X1_65 : Cond.methodLink RX1 65 yX1_ordersOf ∈ gW := gw_mk (i := 654) (by decide +kernel) rfl
theorem ml_X1_71 : Cond.methodLink RX1 71 yX1_factorial ∈ gW := gw_mk (i := 658) (by decide +kernel) rfl
theorem ml_X1_74 : Cond.methodLinkNest RX1 74 yX9_sideOfFraction "JealousChoir" ∈ nW := nw_mk (i := 663) (by decide +kernel) rfl
theorem ml_X1_81 : Cond.methodLink RX1 81 yX1_giveAndCount ∈ gW := gw_mk (i := 680) (by decide +kernel) rfl
theorem ml_X1_85 : Cond.methodLink RX1 85 yX1_isAtRest ∈ gW := gw_mk (i := 689) (by decide +kernel) rfl
theorem ml_X1_89 : Cond.methodLinkNest RX1 89 yX7_give "JealousChoir" ∈ nW := nw_mk (i := 684) (by decide +kernel) rfl
theorem ml_X1_96 : Cond.methodLinkNest RX1 96 yX7_howManySing "JealousChoir" ∈ nW := nw_mk (i := 685) (by decide +kernel) rfl
theorem ml_X1_99 : Cond.methodLinkNest RX1 99 yX9_power "JealousChoir" ∈ nW := nw_mk (i := 701) (by decide +kernel) rfl
theorem ml_X10_59 : Cond.methodLink RX10 59 yX10_in ∈ gW := gw_mk (i := 854) (by decide +kernel) rfl
theorem ml_X10_74 : Cond.methodLink RX10 74 yX10_has ∈ gW := gw_mk (i := 878) (by decide +kernel) rfl
theorem ml_X10_84 : Cond.methodLink RX10 84 yX10_readPart ∈ gW := gw_mk (i := 869) (by decide +kernel) rfl
theorem ml_X10_88 : Cond.methodLink RX10 88 yX10_figureOf ∈ gW := gw_mk (i := 873) (by decide +kernel) rfl
theorem ml_X10_92 : Cond.methodLink RX10 92 yX10_readText ∈ gW := gw_mk (i := 865) (by decide +kernel) rfl
theorem ml_X10_106 : Cond.methodLink RX10 106 yX10_kindNow ∈ gW := gw_mk (i := 903) (by decide +kernel) rfl
theorem ml_X10_110 : Cond.methodLink RX10 110 yX10_seesOf ∈ gW := gw_mk (i := 893) (by decide +kernel) rfl
theorem ml_X10_113 : Cond.methodLink RX10 113 yX10_enviesOf ∈ gW := gw_mk (i := 899) (by decide +kernel) rfl
theorem ml_X10_116 : Cond.methodLink RX10 116 yX10_noteThen ∈ gW := gw_mk (i := 928) (by decide +kernel) rfl
theorem ml_X10_119 : Cond.methodLink RX10 119 yX10_isSinger ∈ gW := gw_mk (i := 889) (by decide +kernel) rfl
theorem ml_X10_125 : Cond.methodLink RX10 125 yX10_whoAt ∈ gW := gw_mk (i := 912) (by decide +kernel) rfl
theorem ml_X10_131 : Cond.methodLink RX10 131 yX10_keepAct ∈ gW := gw_mk (i := 920) (by decide +kernel) rfl
theorem ml_X10_134 : Cond.methodLink RX10 134 yX10_passOn ∈ gW := gw_mk (i := 924) (by decide +kernel) rfl
theorem ml_X10_137 : Cond.methodLink RX10 137 yX10_notesOn ∈ gW := gw_mk (i := 932) (by decide +kernel) rfl
theorem ml_X10_140 : Cond.methodLink RX10 140 yX10_ones ∈ gW := gw_mk (i := 936) (by decide +kernel) rfl
theorem ml_X10_143 : Cond.methodLink RX10 143 yX10_giveOn ∈ gW := gw_mk (i := 943) (by decide +kernel) rfl
theorem ml_X10_147 : Cond.methodLink RX10 147 yX10_changeOn ∈ gW := gw_mk (i := 951) (by decide +kernel) rfl
theorem ml_X10_150 : Cond.methodLink RX10 150 yX10_pitchOn ∈ gW := gw_mk (i := 959) (by decide +kernel) rfl
theorem ml_X10_155 : Cond.methodLink RX10 155 yX10_layTrial ∈ gW := gw_mk (i := 976) (by decide +kernel) rfl
theorem ml_X10_158 : Cond.methodLink RX10 158 yX10_goOn ∈ gW := gw_mk (i := 980) (by decide +kernel) rfl
theorem ml_X10_161 : Cond.methodLink RX10 161 yX10_singAll ∈ gW := gw_mk (i := 992) (by decide +kernel) rfl
theorem ml_X10_164 : Cond.methodLink RX10 164 yX10_isSung ∈ gW := gw_mk (i := 1008) (by decide +kernel) rfl
theorem ml_X10_168 : Cond.methodLink RX10 168 yX10_leastGift ∈ gW := gw_mk (i := 1004) (by decide +kernel) rfl
theorem ml_X10_172 : Cond.methodLink RX10 172 yX10_notesBy ∈ gW := gw_mk (i := 1016) (by decide +kernel) rfl
theorem ml_X10_179 : Cond.methodLink RX10 179 yX10_thousandTo ∈ gW := gw_mk (i := 1025) (by decide +kernel) rfl
theorem ml_X10_183 : Cond.methodLink RX10 183 yX10_tryThing ∈ gW := gw_mk (i := 1029) (by decide +kernel) rfl
theorem ml_X10_190 : Cond.methodLink RX10 190 yX10_mayHave ∈ gW := gw_mk (i := 1045) (by decide +kernel) rfl
theorem ml_X10_193 : Cond.methodLink RX10 193 yX10_factorial ∈ gW := gw_mk (i := 1053) (by decide +kernel) rfl
theorem ml_X10_196 : Cond.methodLink RX10 196 yX10_notesOf ∈ gW := gw_mk (i := 1056) (by decide +kernel) rfl
theorem ml_X10_199 : Cond.methodLink RX10 199 yX10_common ∈ gW := gw_mk (i := 1060) (by decide +kernel) rfl
theorem ml_X10_202 : Cond.methodLink RX10 202 yX10_gain ∈ gW := gw_mk (i := 1071) (by decide +kernel) rfl
theorem ml_X10_205 : Cond.methodLink RX10 205 yX10_isRest ∈ gW := gw_mk (i := 1067) (by decide +kernel) rfl
theorem ml_X10_211 : Cond.methodLink RX10 211 yX10_power ∈ gW := gw_mk (i := 1080) (by decide +kernel) rfl
theorem ml_X10_226 : Cond.methodLink RX10 226 yX10_takenSeats ∈ gW := gw_mk (i := 1107) (by decide +kernel) rfl
theorem ml_X10_229 : Cond.methodLink RX10 229 yX10_goodsOfAll ∈ gW := gw_mk (i := 1111) (by decide +kernel) rfl
theorem ml_X10_232 : Cond.methodLink RX10 232 yX10_jealous ∈ gW := gw_mk (i := 1115) (by decide +kernel) rfl
theorem ml_X2_26 : Cond.methodLinkNest RX2 26 yX7_copyFrom "JealousChoir" ∈ nW := nw_mk (i := 532) (by decide +kernel) rfl
theorem ml_X2_32 : Cond.methodLinkNest RX2 32 yX7_goOn "JealousChoir" ∈ nW := nw_mk (i := 533) (by decide +kernel) rfl
theorem ml_X2_39 : Cond.methodLinkNest RX2 39 yX7_richness "JealousChoir" ∈ nW := nw_mk (i := 542) (by decide +kernel) rfl
theorem ml_X2_43 : Cond.methodLinkNest RX2 43 yX7_notesAsNumber "JealousChoir" ∈ nW := nw_mk (i := 551) (by decide +kernel) rfl
theorem ml_X2_46 : Cond.methodLink RX2 46 yX2_noteBehind ∈ gW := gw_mk (i := 571) (by decide +kernel) rfl
theorem ml_X2_56 : Cond.methodLinkNest RX2 56 yX7_give "JealousChoir" ∈ nW := nw_mk (i := 572) (by decide +kernel) rfl
theorem ml_X2_60 : Cond.methodLink RX2 60 yX2_richnessBehind ∈ gW := gw_mk (i := 581) (by decide +kernel) rfl
theorem ml_X2_64 : Cond.methodLinkNest RX2 64 yX7_swapSeats "JealousChoir" ∈ nW := nw_mk (i := 582) (by decide +kernel) rfl
theorem ml_X2_67 : Cond.methodLinkNest RX2 67 yX9_withoutDoings "JealousChoir" ∈ nW := nw_mk (i := 595) (by decide +kernel) rfl
theorem ml_X2_73 : Cond.methodLink RX2 73 yX2_canBe ∈ gW := gw_mk (i := 597) (by decide +kernel) rfl
theorem ml_X2_77 : Cond.methodLink RX2 77 yX2_happen ∈ gW := gw_mk (i := 603) (by decide +kernel) rfl
theorem ml_X2_81 : Cond.methodLinkNest RX2 81 yX7_isThere "JealousChoir" ∈ nW := nw_mk (i := 601) (by decide +kernel) rfl
theorem ml_X2_85 : Cond.methodLinkNest RX2 85 yX7_enviedBy "JealousChoir" ∈ nW := nw_mk (i := 602) (by decide +kernel) rfl
theorem ml_X2_88 : Cond.methodLinkNest RX2 88 yX7_takeVoices "JealousChoir" ∈ nW := nw_mk (i := 607) (by decide +kernel) rfl
theorem ml_X2_94 : Cond.methodLink RX2 94 yX2_isAllHeard ∈ gW := gw_mk (i := 628) (by decide +kernel) rfl
theorem ml_X2_98 : Cond.methodLinkNest RX2 98 yX3_allowsAt "JealousChoir" ∈ nW := nw_mk (i := 632) (by decide +kernel) rfl
theorem ml_X3_25 : Cond.methodLinkNest RX3 25 yX7_isThere "JealousChoir" ∈ nW := nw_mk (i := 636) (by decide +kernel) rfl
theorem ml_X5_19 : Cond.methodLink RX5 19 yX5_canStand ∈ gW := gw_mk (i := 366) (by decide +kernel) rfl
theorem ml_X5_23 : Cond.methodLink RX5 23 yX5_part ∈ gW := gw_mk (i := 369) (by decide +kernel) rfl
theorem ml_X5_27 : Cond.methodLinkNest RX5 27 yX9_isWithin "JealousChoir" ∈ nW := nw_mk (i := 372) (by decide +kernel) rfl
theorem ml_X5_30 : Cond.methodLink RX5 30 Lib.Math.min.name ∈ gW := gw_mk (i := 383) (by decide +kernel) rfl
theorem ml_X5_58 : Cond.methodLinkNest RX5 58 yX4_everybody "JealousChoir" ∈ nW := nw_mk (i := 386) (by decide +kernel) rfl
theorem ml_X5_71 : Cond.methodLinkNest RX5 71 yX7_takeVoices "JealousChoir" ∈ nW := nw_mk (i := 390) (by decide +kernel) rfl
theorem ml_X6_24 : Cond.methodLinkNest RX6 24 yX9_isWithin "JealousChoir" ∈ nW := nw_mk (i := 739) (by decide +kernel) rfl
theorem ml_X6_28 : Cond.methodLinkNest RX6 28 yX7_copyFrom "JealousChoir" ∈ nW := nw_mk (i := 740) (by decide +kernel) rfl
theorem ml_X7_38 : Cond.methodLink RX7 38 arraycopyName ∈ gW := gw_mk (i := 394) (by decide +kernel) rfl
theorem ml_X7_49 : Cond.methodLink RX7 49 yX7_isSeen ∈ gW := gw_mk (i := 417) (by decide +kernel) rfl
theorem ml_X7_53 : Cond.methodLink RX7 53 yX7_isHeld ∈ gW := gw_mk (i := 425) (by decide +kernel) rfl
theorem ml_X7_57 : Cond.methodLink RX7 57 yX7_enviedBy ∈ gW := gw_mk (i := 464) (by decide +kernel) rfl
theorem ml_X7_67 : Cond.methodLink RX7 67 Lib.Math.min.name ∈ gW := gw_mk (i := 465) (by decide +kernel) rfl
theorem ml_X7_73 : Cond.methodLink RX7 73 Lib.Math.max.name ∈ gW := gw_mk (i := 466) (by decide +kernel) rfl
theorem ml_X7_76 : Cond.methodLink RX7 76 yX7_isThere ∈ gW := gw_mk (i := 442) (by decide +kernel) rfl
theorem ml_X7_79 : Cond.methodLink RX7 79 yX7_nextNoteOf ∈ gW := gw_mk (i := 460) (by decide +kernel) rfl
theorem ml_X7_82 : Cond.methodLink RX7 82 yX7_bitsOf ∈ gW := gw_mk (i := 477) (by decide +kernel) rfl
theorem ml_X7_86 : Cond.methodLink RX7 86 yX7_notesSung ∈ gW := gw_mk (i := 473) (by decide +kernel) rfl
theorem ml_X7_90 : Cond.methodLink RX7 90 yJ6_bitCount_0f7a4 ∈ gW := gw_mk (i := 481) (by decide +kernel) rfl
theorem ml_X8_20 : Cond.methodLinkNest RX8 20 yX7_copyFrom "JealousChoir" ∈ nW := nw_mk (i := 716) (by decide +kernel) rfl
theorem ml_X8_32 : Cond.methodLink RX8 32 yX8_happen ∈ gW := gw_mk (i := 720) (by decide +kernel) rfl
theorem ml_X8_36 : Cond.methodLinkNest RX8 36 yX7_richness "JealousChoir" ∈ nW := nw_mk (i := 730) (by decide +kernel) rfl
theorem ml_X8_40 : Cond.methodLinkNest RX8 40 yX7_isThere "JealousChoir" ∈ nW := nw_mk (i := 724) (by decide +kernel) rfl
theorem ml_X8_44 : Cond.methodLinkNest RX8 44 yX7_give "JealousChoir" ∈ nW := nw_mk (i := 725) (by decide +kernel) rfl
theorem ml_X8_48 : Cond.methodLinkNest RX8 48 yX7_turnHeldOn "JealousChoir" ∈ nW := nw_mk (i := 726) (by decide +kernel) rfl
theorem ml_X8_51 : Cond.methodLinkNest RX8 51 yX7_swapSeats "JealousChoir" ∈ nW := nw_mk (i := 727) (by decide +kernel) rfl
theorem ml_X8_54 : Cond.methodLinkNest RX8 54 yX7_takeVoices "JealousChoir" ∈ nW := nw_mk (i := 728) (by decide +kernel) rfl
theorem ml_X8_57 : Cond.methodLinkNest RX8 57 yX7_goOn "JealousChoir" ∈ nW := nw_mk (i := 729) (by decide +kernel) rfl
theorem ml_X9_81 : Cond.methodLinkNest RX9 81 yX5_put "JealousChoir" ∈ nW := nw_mk (i := 350) (by decide +kernel) rfl
theorem ml_X9_89 : Cond.methodLinkNest RX9 89 yX5_firstFault "JealousChoir" ∈ nW := nw_mk (i := 362) (by decide +kernel) rfl
theorem ml_X9_93 : Cond.methodLinkNest RX9 93 yX5_tellTo "JealousChoir" ∈ nW := nw_mk (i := 379) (by decide +kernel) rfl
theorem ml_X9_97 : Cond.methodLinkNest RX9 97 yX0_forgetAll "JealousChoir" ∈ nW := nw_mk (i := 397) (by decide +kernel) rfl
theorem ml_X9_100 : Cond.methodLinkNest RX9 100 yX6_forgetAll "JealousChoir" ∈ nW := nw_mk (i := 401) (by decide +kernel) rfl
theorem ml_X9_104 : Cond.methodLinkNest RX9 104 yX7_isThere "JealousChoir" ∈ nW := nw_mk (i := 409) (by decide +kernel) rfl
theorem ml_X9_126 : Cond.methodLinkNest RX9 126 yX7_seenBy "JealousChoir" ∈ nW := nw_mk (i := 413) (by decide +kernel) rfl
theorem ml_X9_130 : Cond.methodLinkNest RX9 130 yX7_enviedBy "JealousChoir" ∈ nW := nw_mk (i := 421) (by decide +kernel) rfl
theorem ml_X9_133 : Cond.methodLinkNest RX9 133 yX7_isHeldOn "JealousChoir" ∈ nW := nw_mk (i := 429) (by decide +kernel) rfl
theorem ml_X9_136 : Cond.methodLink RX9 136 yX9_isWithin ∈ gW := gw_mk (i := 437) (by decide +kernel) rfl
theorem ml_X9_140 : Cond.methodLinkNest RX9 140 yX7_whoIsAt "JealousChoir" ∈ nW := nw_mk (i := 438) (by decide +kernel) rfl
theorem ml_X9_143 : Cond.methodLinkNest RX9 143 yX0_remember "JealousChoir" ∈ nW := nw_mk (i := 447) (by decide +kernel) rfl
theorem ml_X9_147 : Cond.methodLinkNest RX9 147 yX7_goOn "JealousChoir" ∈ nW := nw_mk (i := 456) (by decide +kernel) rfl
theorem ml_X9_154 : Cond.methodLinkNest RX9 154 yX7_richness "JealousChoir" ∈ nW := nw_mk (i := 469) (by decide +kernel) rfl
theorem ml_X9_157 : Cond.methodLinkNest RX9 157 yX7_give "JealousChoir" ∈ nW := nw_mk (i := 491) (by decide +kernel) rfl
theorem ml_X9_161 : Cond.methodLinkNest RX9 161 yX7_swapSeats "JealousChoir" ∈ nW := nw_mk (i := 499) (by decide +kernel) rfl
theorem ml_X9_164 : Cond.methodLinkNest RX9 164 yX7_takeVoices "JealousChoir" ∈ nW := nw_mk (i := 507) (by decide +kernel) rfl
theorem ml_X9_167 : Cond.methodLinkNest RX9 167 yX7_turnHeldOn "JealousChoir" ∈ nW := nw_mk (i := 512) (by decide +kernel) rfl
theorem ml_X9_170 : Cond.methodLinkNest RX9 170 yX0_giveBack "JealousChoir" ∈ nW := nw_mk (i := 520) (by decide +kernel) rfl
theorem ml_X9_175 : Cond.methodLinkNest RX9 175 yX2_noteBehind "JealousChoir" ∈ nW := nw_mk (i := 528) (by decide +kernel) rfl
theorem ml_X9_179 : Cond.methodLinkNest RX9 179 yX2_richnessBehind "JealousChoir" ∈ nW := nw_mk (i := 538) (by decide +kernel) rfl
theorem ml_X9_182 : Cond.methodLinkNest RX9 182 yX2_firstReturn "JealousChoir" ∈ nW := nw_mk (i := 547) (by decide +kernel) rfl
theorem ml_X9_186 : Cond.methodLinkNest RX9 186 yX2_firstOneNote "JealousChoir" ∈ nW := nw_mk (i := 559) (by decide +kernel) rfl
theorem ml_X9_189 : Cond.methodLinkNest RX9 189 yX2_leastGift "JealousChoir" ∈ nW := nw_mk (i := 567) (by decide +kernel) rfl
theorem ml_X9_193 : Cond.methodLinkNest RX9 193 yX2_richestChange "JealousChoir" ∈ nW := nw_mk (i := 577) (by decide +kernel) rfl
theorem ml_X9_197 : Cond.methodLink RX9 197 yX9_withoutDoings ∈ gW := gw_mk (i := 587) (by decide +kernel) rfl
theorem ml_X9_201 : Cond.methodLinkNest RX9 201 yX2_firstWrongDoing "JealousChoir" ∈ nW := nw_mk (i := 591) (by decide +kernel) rfl
theorem ml_X9_205 : Cond.methodLinkNest RX9 205 yX3_put "JealousChoir" ∈ nW := nw_mk (i := 612) (by decide +kernel) rfl
theorem ml_X9_208 : Cond.methodLinkNest RX9 208 yX2_goodsThatFit "JealousChoir" ∈ nW := nw_mk (i := 624) (by decide +kernel) rfl
theorem ml_X9_212 : Cond.methodLinkNest RX9 212 yX1_meanGain "JealousChoir" ∈ nW := nw_mk (i := 641) (by decide +kernel) rfl
theorem ml_X9_215 : Cond.methodLinkNest RX9 215 yX1_restingPairs "JealousChoir" ∈ nW := nw_mk (i := 676) (by decide +kernel) rfl
theorem ml_X9_219 : Cond.methodLinkNest RX9 219 yX1_chanceOfOneNote "JealousChoir" ∈ nW := nw_mk (i := 697) (by decide +kernel) rfl
theorem ml_X9_226 : Cond.methodLinkNest RX9 226 yX8_goThrough "JealousChoir" ∈ nW := nw_mk (i := 712) (by decide +kernel) rfl
theorem ml_X9_229 : Cond.methodLinkNest RX9 229 yX6_put "JealousChoir" ∈ nW := nw_mk (i := 735) (by decide +kernel) rfl
theorem ml_X9_232 : Cond.methodLinkNest RX9 232 yX6_giveBack "JealousChoir" ∈ nW := nw_mk (i := 745) (by decide +kernel) rfl
theorem ml_X9_234 : Cond.methodLinkNest RX9 234 yX7_seatsTaken "JealousChoir" ∈ nW := nw_mk (i := 753) (by decide +kernel) rfl
theorem ml_X9_237 : Cond.methodLinkNest RX9 237 yX7_notesSung "JealousChoir" ∈ nW := nw_mk (i := 757) (by decide +kernel) rfl
theorem ml_X9_240 : Cond.methodLinkNest RX9 240 yX7_goodsOfAll "JealousChoir" ∈ nW := nw_mk (i := 758) (by decide +kernel) rfl
theorem ml_X9_243 : Cond.methodLinkNest RX9 243 yX7_envious "JealousChoir" ∈ nW := nw_mk (i := 762) (by decide +kernel) rfl
theorem ml_X9_251 : Cond.methodLink RX9 251 Lib.Math.abs.name ∈ gW := gw_mk (i := 666) (by decide +kernel) rfl
theorem ml_X9_256 : Cond.methodLink RX9 256 yX9_greatestDivisor ∈ gW := gw_mk (i := 669) (by decide +kernel) rfl
set_option maxRecDepth 20000 in
theorem mi_J6_bitCount_0f7a4 : Ms yJ6_bitCount_0f7a4 cJ6_bitCount_0f7a4 1 (some .int) 1 := ⟨⟨gw_mk (i := 483) (by decide +kernel) rfl, gw_mk (i := 97) (by decide +kernel) rfl, by decide +kernel, by decide⟩, gw_mk (i := 482) (by decide +kernel) rfl⟩
set_option maxRecDepth 20000 in
theorem mi_X0_forgetAll : Mv yX0_forgetAll cX0_forgetAll 1 (none) 0 := ⟨⟨gw_mk (i := 400) (by decide +kernel) rfl, gw_mk (i := 88) (by decide +kernel) rfl, by decide +kernel, by decide⟩, gw_mk (i := 399) (by decide +kernel) rfl, gw_mk (i := 5) (by decide +kernel) rfl⟩
set_option maxRecDepth 20000 in
theorem mi_X0_giveBack : Mv yX0_giveBack cX0_giveBack 2 (some .boolean) 1 := ⟨⟨gw_mk (i := 523) (by decide +kernel) rfl, gw_mk (i := 88) (by decide +kernel) rfl, by decide +kernel, by decide⟩, gw_mk (i := 522) (by decide +kernel) rfl, gw_mk (i := 24) (by decide +kernel) rfl⟩
set_option maxRecDepth 20000 in
theorem mi_X0_remember : Mv yX0_remember cX0_remember 2 (none) 1 := ⟨⟨gw_mk (i := 450) (by decide +kernel) rfl, gw_mk (i := 88) (by decide +kernel) rfl, by decide +kernel, by decide⟩, gw_mk (i := 449) (by decide +kernel) rfl, gw_mk (i := 14) (by decide +kernel) rfl⟩
set_option maxRecDepth 20000 in
theorem mi_X10_again : Mv yX10_again cX10_again 3 (some .int) 1 := ⟨⟨gw_mk (i := 1102) (by decide +kernel) rfl, gw_mk (i := 94) (by decide +kernel) rfl, by decide +kernel, by decide⟩, gw_mk (i := 1100) (by decide +kernel) rfl, gw_mk (i := 1101) (by decide +kernel) rfl⟩
set_option maxRecDepth 20000 in
theorem mi_X10_bar : Mv yX10_bar cX10_bar 1 (some .int) 0 := ⟨⟨gw_mk (i := 919) (by decide +kernel) rfl, gw_mk (i := 94) (by decide +kernel) rfl, by decide +kernel, by decide⟩, gw_mk (i := 917) (by decide +kernel) rfl, gw_mk (i := 918) (by decide +kernel) rfl⟩
set_option maxRecDepth 20000 in
theorem mi_X10_best : Mv yX10_best cX10_best 9 (some .int) 2 := ⟨⟨gw_mk (i := 1015) (by decide +kernel) rfl, gw_mk (i := 94) (by decide +kernel) rfl, by decide +kernel, by decide⟩, gw_mk (i := 1013) (by decide +kernel) rfl, gw_mk (i := 1014) (by decide +kernel) rfl⟩
set_option maxRecDepth 20000 in
theorem mi_X10_change : Mv yX10_change cX10_change 3 (some .int) 2 := ⟨⟨gw_mk (i := 950) (by decide +kernel) rfl, gw_mk (i := 94) (by decide +kernel) rfl, by decide +kernel, by decide⟩, gw_mk (i := 948) (by decide +kernel) rfl, gw_mk (i := 949) (by decide +kernel) rfl⟩
set_option maxRecDepth 20000 in
theorem mi_X10_changeOn : Mv yX10_changeOn cX10_changeOn 5 (none) 3 := ⟨⟨gw_mk (i := 954) (by decide +kernel) rfl, gw_mk (i := 94) (by decide +kernel) rfl, by decide +kernel, by decide⟩, gw_mk (i := 953) (by decide +kernel) rfl, gw_mk (i := 67) (by decide +kernel) rfl⟩
set_option maxRecDepth 20000 in
theorem mi_X10_choir : Mv yX10_choir cX10_choir 2 (some .int) 0 := ⟨⟨gw_mk (i := 884) (by decide +kernel) rfl, gw_mk (i := 94) (by decide +kernel) rfl, by decide +kernel, by decide⟩, gw_mk (i := 882) (by decide +kernel) rfl, gw_mk (i := 883) (by decide +kernel) rfl⟩
set_option maxRecDepth 20000 in
theorem mi_X10_common : Ms yX10_common cX10_common 5 (some .int) 2 := ⟨⟨gw_mk (i := 1062) (by decide +kernel) rfl, gw_mk (i := 94) (by decide +kernel) rfl, by decide +kernel, by decide⟩, gw_mk (i := 1061) (by decide +kernel) rfl⟩
set_option maxRecDepth 20000 in
theorem mi_X10_count : Mv yX10_count cX10_count 2 (some .int) 1 := ⟨⟨gw_mk (i := 1106) (by decide +kernel) rfl, gw_mk (i := 94) (by decide +kernel) rfl, by decide +kernel, by decide⟩, gw_mk (i := 1104) (by decide +kernel) rfl, gw_mk (i := 1105) (by decide +kernel) rfl⟩
set_option maxRecDepth 20000 in
theorem mi_X10_enviesOf : Mv yX10_enviesOf cX10_enviesOf 9 (some .int) 2 := ⟨⟨gw_mk (i := 902) (by decide +kernel) rfl, gw_mk (i := 94) (by decide +kernel) rfl, by decide +kernel, by decide⟩, gw_mk (i := 901) (by decide +kernel) rfl, gw_mk (i := 59) (by decide +kernel) rfl⟩
set_option maxRecDepth 20000 in
theorem mi_X10_factorial : Ms yX10_factorial cX10_factorial 3 (some .int) 1 := ⟨⟨gw_mk (i := 1055) (by decide +kernel) rfl, gw_mk (i := 94) (by decide +kernel) rfl, by decide +kernel, by decide⟩, gw_mk (i := 1054) (by decide +kernel) rfl⟩
set_option maxRecDepth 20000 in
theorem mi_X10_fault : Mv yX10_fault cX10_fault 1 (some .int) 0 := ⟨⟨gw_mk (i := 864) (by decide +kernel) rfl, gw_mk (i := 94) (by decide +kernel) rfl, by decide +kernel, by decide⟩, gw_mk (i := 862) (by decide +kernel) rfl, gw_mk (i := 863) (by decide +kernel) rfl⟩
set_option maxRecDepth 20000 in
theorem mi_X10_figureOf : Mv yX10_figureOf cX10_figureOf 4 (some .int) 1 := ⟨⟨gw_mk (i := 876) (by decide +kernel) rfl, gw_mk (i := 94) (by decide +kernel) rfl, by decide +kernel, by decide⟩, gw_mk (i := 875) (by decide +kernel) rfl, gw_mk (i := 56) (by decide +kernel) rfl⟩
set_option maxRecDepth 20000 in
theorem mi_X10_gain : Mv yX10_gain cX10_gain 6 (some .int) 3 := ⟨⟨gw_mk (i := 1074) (by decide +kernel) rfl, gw_mk (i := 94) (by decide +kernel) rfl, by decide +kernel, by decide⟩, gw_mk (i := 1073) (by decide +kernel) rfl, gw_mk (i := 79) (by decide +kernel) rfl⟩
set_option maxRecDepth 20000 in
theorem mi_X10_gets : Mv yX10_gets cX10_gets 6 (some .int) 4 := ⟨⟨gw_mk (i := 1003) (by decide +kernel) rfl, gw_mk (i := 94) (by decide +kernel) rfl, by decide +kernel, by decide⟩, gw_mk (i := 1001) (by decide +kernel) rfl, gw_mk (i := 1002) (by decide +kernel) rfl⟩
set_option maxRecDepth 20000 in
theorem mi_X10_gift : Mv yX10_gift cX10_gift 3 (some .int) 2 := ⟨⟨gw_mk (i := 942) (by decide +kernel) rfl, gw_mk (i := 94) (by decide +kernel) rfl, by decide +kernel, by decide⟩, gw_mk (i := 940) (by decide +kernel) rfl, gw_mk (i := 941) (by decide +kernel) rfl⟩
set_option maxRecDepth 20000 in
theorem mi_X10_giveOn : Mv yX10_giveOn cX10_giveOn 5 (none) 3 := ⟨⟨gw_mk (i := 946) (by decide +kernel) rfl, gw_mk (i := 94) (by decide +kernel) rfl, by decide +kernel, by decide⟩, gw_mk (i := 945) (by decide +kernel) rfl, gw_mk (i := 66) (by decide +kernel) rfl⟩
set_option maxRecDepth 20000 in
theorem mi_X10_goOn : Mv yX10_goOn cX10_goOn 3 (none) 1 := ⟨⟨gw_mk (i := 983) (by decide +kernel) rfl, gw_mk (i := 94) (by decide +kernel) rfl, by decide +kernel, by decide⟩, gw_mk (i := 982) (by decide +kernel) rfl, gw_mk (i := 70) (by decide +kernel) rfl⟩
set_option maxRecDepth 20000 in
theorem mi_X10_goodsOfAll : Mv yX10_goodsOfAll cX10_goodsOfAll 3 (some .int) 0 := ⟨⟨gw_mk (i := 1114) (by decide +kernel) rfl, gw_mk (i := 94) (by decide +kernel) rfl, by decide +kernel, by decide⟩, gw_mk (i := 1113) (by decide +kernel) rfl, gw_mk (i := 81) (by decide +kernel) rfl⟩
set_option maxRecDepth 20000 in
theorem mi_X10_had : Mv yX10_had cX10_had 4 (some .int) 1 := ⟨⟨gw_mk (i := 1044) (by decide +kernel) rfl, gw_mk (i := 94) (by decide +kernel) rfl, by decide +kernel, by decide⟩, gw_mk (i := 1042) (by decide +kernel) rfl, gw_mk (i := 1043) (by decide +kernel) rfl⟩
set_option maxRecDepth 20000 in
theorem mi_X10_has : Ms yX10_has cX10_has 2 (some .boolean) 2 := ⟨⟨gw_mk (i := 880) (by decide +kernel) rfl, gw_mk (i := 94) (by decide +kernel) rfl, by decide +kernel, by decide⟩, gw_mk (i := 879) (by decide +kernel) rfl⟩
set_option maxRecDepth 20000 in
theorem mi_X10_hear : Mv yX10_hear cX10_hear 4 (some .int) 3 := ⟨⟨gw_mk (i := 1036) (by decide +kernel) rfl, gw_mk (i := 94) (by decide +kernel) rfl, by decide +kernel, by decide⟩, gw_mk (i := 1034) (by decide +kernel) rfl, gw_mk (i := 1035) (by decide +kernel) rfl⟩
set_option maxRecDepth 20000 in
theorem mi_X10_hoarse : Mv yX10_hoarse cX10_hoarse 8 (some .int) 3 := ⟨⟨gw_mk (i := 1078) (by decide +kernel) rfl, gw_mk (i := 94) (by decide +kernel) rfl, by decide +kernel, by decide⟩, gw_mk (i := 1076) (by decide +kernel) rfl, gw_mk (i := 1077) (by decide +kernel) rfl⟩
set_option maxRecDepth 20000 in
theorem mi_X10_hold : Mv yX10_hold cX10_hold 2 (some .int) 1 := ⟨⟨gw_mk (i := 966) (by decide +kernel) rfl, gw_mk (i := 94) (by decide +kernel) rfl, by decide +kernel, by decide⟩, gw_mk (i := 964) (by decide +kernel) rfl, gw_mk (i := 965) (by decide +kernel) rfl⟩
set_option maxRecDepth 20000 in
theorem mi_X10_in : Ms yX10_in cX10_in 6 (some .boolean) 3 := ⟨⟨gw_mk (i := 856) (by decide +kernel) rfl, gw_mk (i := 94) (by decide +kernel) rfl, by decide +kernel, by decide⟩, gw_mk (i := 855) (by decide +kernel) rfl⟩
set_option maxRecDepth 20000 in
theorem mi_X10_isRest : Mv yX10_isRest cX10_isRest 7 (some .boolean) 4 := ⟨⟨gw_mk (i := 1070) (by decide +kernel) rfl, gw_mk (i := 94) (by decide +kernel) rfl, by decide +kernel, by decide⟩, gw_mk (i := 1069) (by decide +kernel) rfl, gw_mk (i := 78) (by decide +kernel) rfl⟩
set_option maxRecDepth 20000 in
theorem mi_X10_isSinger : Mv yX10_isSinger cX10_isSinger 2 (some .boolean) 1 := ⟨⟨gw_mk (i := 892) (by decide +kernel) rfl, gw_mk (i := 94) (by decide +kernel) rfl, by decide +kernel, by decide⟩, gw_mk (i := 891) (by decide +kernel) rfl, gw_mk (i := 57) (by decide +kernel) rfl⟩
set_option maxRecDepth 20000 in
theorem mi_X10_isSung : Mv yX10_isSung cX10_isSung 6 (some .boolean) 5 := ⟨⟨gw_mk (i := 1011) (by decide +kernel) rfl, gw_mk (i := 94) (by decide +kernel) rfl, by decide +kernel, by decide⟩, gw_mk (i := 1010) (by decide +kernel) rfl, gw_mk (i := 73) (by decide +kernel) rfl⟩
set_option maxRecDepth 20000 in
theorem mi_X10_jealous : Mv yX10_jealous cX10_jealous 3 (some .int) 0 := ⟨⟨gw_mk (i := 1118) (by decide +kernel) rfl, gw_mk (i := 94) (by decide +kernel) rfl, by decide +kernel, by decide⟩, gw_mk (i := 1117) (by decide +kernel) rfl, gw_mk (i := 82) (by decide +kernel) rfl⟩
set_option maxRecDepth 20000 in
theorem mi_X10_judge : Mv yX10_judge cX10_judge 6 (some .int) 2 := ⟨⟨gw_mk (i := 1023) (by decide +kernel) rfl, gw_mk (i := 94) (by decide +kernel) rfl, by decide +kernel, by decide⟩, gw_mk (i := 1021) (by decide +kernel) rfl, gw_mk (i := 1022) (by decide +kernel) rfl⟩
set_option maxRecDepth 20000 in
theorem mi_X10_keep : Mv yX10_keep cX10_keep 3 (some .int) 1 := ⟨⟨gw_mk (i := 1098) (by decide +kernel) rfl, gw_mk (i := 94) (by decide +kernel) rfl, by decide +kernel, by decide⟩, gw_mk (i := 1096) (by decide +kernel) rfl, gw_mk (i := 1097) (by decide +kernel) rfl⟩
set_option maxRecDepth 20000 in
theorem mi_X10_keepAct : Mv yX10_keepAct cX10_keepAct 2 (none) 0 := ⟨⟨gw_mk (i := 923) (by decide +kernel) rfl, gw_mk (i := 94) (by decide +kernel) rfl, by decide +kernel, by decide⟩, gw_mk (i := 922) (by decide +kernel) rfl, gw_mk (i := 62) (by decide +kernel) rfl⟩
set_option maxRecDepth 20000 in
theorem mi_X10_kindNow : Mv yX10_kindNow cX10_kindNow 3 (some .int) 2 := ⟨⟨gw_mk (i := 906) (by decide +kernel) rfl, gw_mk (i := 94) (by decide +kernel) rfl, by decide +kernel, by decide⟩, gw_mk (i := 905) (by decide +kernel) rfl, gw_mk (i := 60) (by decide +kernel) rfl⟩
set_option maxRecDepth 20000 in
theorem mi_X10_layTrial : Mv yX10_layTrial cX10_layTrial 2 (none) 0 := ⟨⟨gw_mk (i := 979) (by decide +kernel) rfl, gw_mk (i := 94) (by decide +kernel) rfl, by decide +kernel, by decide⟩, gw_mk (i := 978) (by decide +kernel) rfl, gw_mk (i := 69) (by decide +kernel) rfl⟩
set_option maxRecDepth 20000 in
theorem mi_X10_leastGift : Mv yX10_leastGift cX10_leastGift 6 (some .int) 3 := ⟨⟨gw_mk (i := 1007) (by decide +kernel) rfl, gw_mk (i := 94) (by decide +kernel) rfl, by decide +kernel, by decide⟩, gw_mk (i := 1006) (by decide +kernel) rfl, gw_mk (i := 72) (by decide +kernel) rfl⟩
set_option maxRecDepth 20000 in
theorem mi_X10_mayHave : Mv yX10_mayHave cX10_mayHave 5 (some .boolean) 2 := ⟨⟨gw_mk (i := 1048) (by decide +kernel) rfl, gw_mk (i := 94) (by decide +kernel) rfl, by decide +kernel, by decide⟩, gw_mk (i := 1047) (by decide +kernel) rfl, gw_mk (i := 76) (by decide +kernel) rfl⟩
set_option maxRecDepth 20000 in
theorem mi_X10_noteThen : Mv yX10_noteThen cX10_noteThen 7 (some .int) 2 := ⟨⟨gw_mk (i := 931) (by decide +kernel) rfl, gw_mk (i := 94) (by decide +kernel) rfl, by decide +kernel, by decide⟩, gw_mk (i := 930) (by decide +kernel) rfl, gw_mk (i := 64) (by decide +kernel) rfl⟩
set_option maxRecDepth 20000 in
theorem mi_X10_notes : Mv yX10_notes cX10_notes 2 (some .int) 1 := ⟨⟨gw_mk (i := 987) (by decide +kernel) rfl, gw_mk (i := 94) (by decide +kernel) rfl, by decide +kernel, by decide⟩, gw_mk (i := 985) (by decide +kernel) rfl, gw_mk (i := 986) (by decide +kernel) rfl⟩
set_option maxRecDepth 20000 in
theorem mi_X10_notesBy : Mv yX10_notesBy cX10_notesBy 4 (some .int) 3 := ⟨⟨gw_mk (i := 1019) (by decide +kernel) rfl, gw_mk (i := 94) (by decide +kernel) rfl, by decide +kernel, by decide⟩, gw_mk (i := 1018) (by decide +kernel) rfl, gw_mk (i := 74) (by decide +kernel) rfl⟩
set_option maxRecDepth 20000 in
theorem mi_X10_notesOf : Mv yX10_notesOf cX10_notesOf 4 (some .int) 2 := ⟨⟨gw_mk (i := 1059) (by decide +kernel) rfl, gw_mk (i := 94) (by decide +kernel) rfl, by decide +kernel, by decide⟩, gw_mk (i := 1058) (by decide +kernel) rfl, gw_mk (i := 77) (by decide +kernel) rfl⟩
set_option maxRecDepth 20000 in
theorem mi_X10_notesOn : Mv yX10_notesOn cX10_notesOn 4 (some .int) 1 := ⟨⟨gw_mk (i := 935) (by decide +kernel) rfl, gw_mk (i := 94) (by decide +kernel) rfl, by decide +kernel, by decide⟩, gw_mk (i := 934) (by decide +kernel) rfl, gw_mk (i := 65) (by decide +kernel) rfl⟩
set_option maxRecDepth 20000 in
theorem mi_X10_ones : Ms yX10_ones cX10_ones 3 (some .int) 1 := ⟨⟨gw_mk (i := 938) (by decide +kernel) rfl, gw_mk (i := 94) (by decide +kernel) rfl, by decide +kernel, by decide⟩, gw_mk (i := 937) (by decide +kernel) rfl⟩
set_option maxRecDepth 20000 in
theorem mi_X10_passOn : Mv yX10_passOn cX10_passOn 3 (none) 1 := ⟨⟨gw_mk (i := 927) (by decide +kernel) rfl, gw_mk (i := 94) (by decide +kernel) rfl, by decide +kernel, by decide⟩, gw_mk (i := 926) (by decide +kernel) rfl, gw_mk (i := 63) (by decide +kernel) rfl⟩
set_option maxRecDepth 20000 in
theorem mi_X10_pitch : Mv yX10_pitch cX10_pitch 1 (some .int) 0 := ⟨⟨gw_mk (i := 958) (by decide +kernel) rfl, gw_mk (i := 94) (by decide +kernel) rfl, by decide +kernel, by decide⟩, gw_mk (i := 956) (by decide +kernel) rfl, gw_mk (i := 957) (by decide +kernel) rfl⟩
set_option maxRecDepth 20000 in
theorem mi_X10_pitchOn : Mv yX10_pitchOn cX10_pitchOn 3 (none) 1 := ⟨⟨gw_mk (i := 962) (by decide +kernel) rfl, gw_mk (i := 94) (by decide +kernel) rfl, by decide +kernel, by decide⟩, gw_mk (i := 961) (by decide +kernel) rfl, gw_mk (i := 68) (by decide +kernel) rfl⟩
set_option maxRecDepth 20000 in
theorem mi_X10_power : Ms yX10_power cX10_power 4 (some .int) 2 := ⟨⟨gw_mk (i := 1082) (by decide +kernel) rfl, gw_mk (i := 94) (by decide +kernel) rfl, by decide +kernel, by decide⟩, gw_mk (i := 1081) (by decide +kernel) rfl⟩
set_option maxRecDepth 20000 in
theorem mi_X10_readPart : Mv yX10_readPart cX10_readPart 4 (none) 1 := ⟨⟨gw_mk (i := 872) (by decide +kernel) rfl, gw_mk (i := 94) (by decide +kernel) rfl, by decide +kernel, by decide⟩, gw_mk (i := 871) (by decide +kernel) rfl, gw_mk (i := 55) (by decide +kernel) rfl⟩
set_option maxRecDepth 20000 in
theorem mi_X10_readText : Mv yX10_readText cX10_readText 1 (some .int) 0 := ⟨⟨gw_mk (i := 868) (by decide +kernel) rfl, gw_mk (i := 94) (by decide +kernel) rfl, by decide +kernel, by decide⟩, gw_mk (i := 867) (by decide +kernel) rfl, gw_mk (i := 54) (by decide +kernel) rfl⟩
set_option maxRecDepth 20000 in
theorem mi_X10_rests : Mv yX10_rests cX10_rests 7 (some .int) 3 := ⟨⟨gw_mk (i := 1066) (by decide +kernel) rfl, gw_mk (i := 94) (by decide +kernel) rfl, by decide +kernel, by decide⟩, gw_mk (i := 1064) (by decide +kernel) rfl, gw_mk (i := 1065) (by decide +kernel) rfl⟩
set_option maxRecDepth 20000 in
theorem mi_X10_round : Mv yX10_round cX10_round 4 (some .int) 1 := ⟨⟨gw_mk (i := 991) (by decide +kernel) rfl, gw_mk (i := 94) (by decide +kernel) rfl, by decide +kernel, by decide⟩, gw_mk (i := 989) (by decide +kernel) rfl, gw_mk (i := 990) (by decide +kernel) rfl⟩
set_option maxRecDepth 20000 in
theorem mi_X10_seat : Mv yX10_seat cX10_seat 2 (some .int) 1 := ⟨⟨gw_mk (i := 910) (by decide +kernel) rfl, gw_mk (i := 94) (by decide +kernel) rfl, by decide +kernel, by decide⟩, gw_mk (i := 908) (by decide +kernel) rfl, gw_mk (i := 909) (by decide +kernel) rfl⟩
set_option maxRecDepth 20000 in
theorem mi_X10_seed : Mv yX10_seed cX10_seed 5 (some .long) 1 := ⟨⟨gw_mk (i := 1086) (by decide +kernel) rfl, gw_mk (i := 94) (by decide +kernel) rfl, by decide +kernel, by decide⟩, gw_mk (i := 1084) (by decide +kernel) rfl, gw_mk (i := 1085) (by decide +kernel) rfl⟩
set_option maxRecDepth 20000 in
theorem mi_X10_seesOf : Mv yX10_seesOf cX10_seesOf 6 (some .int) 2 := ⟨⟨gw_mk (i := 896) (by decide +kernel) rfl, gw_mk (i := 94) (by decide +kernel) rfl, by decide +kernel, by decide⟩, gw_mk (i := 895) (by decide +kernel) rfl, gw_mk (i := 58) (by decide +kernel) rfl⟩
set_option maxRecDepth 20000 in
theorem mi_X10_share : Mv yX10_share cX10_share 6 (some .int) 2 := ⟨⟨gw_mk (i := 1052) (by decide +kernel) rfl, gw_mk (i := 94) (by decide +kernel) rfl, by decide +kernel, by decide⟩, gw_mk (i := 1050) (by decide +kernel) rfl, gw_mk (i := 1051) (by decide +kernel) rfl⟩
set_option maxRecDepth 20000 in
theorem mi_X10_singAll : Mv yX10_singAll cX10_singAll 3 (none) 0 := ⟨⟨gw_mk (i := 995) (by decide +kernel) rfl, gw_mk (i := 94) (by decide +kernel) rfl, by decide +kernel, by decide⟩, gw_mk (i := 994) (by decide +kernel) rfl, gw_mk (i := 71) (by decide +kernel) rfl⟩
set_option maxRecDepth 20000 in
theorem mi_X10_singer : Mv yX10_singer cX10_singer 3 (some .int) 2 := ⟨⟨gw_mk (i := 888) (by decide +kernel) rfl, gw_mk (i := 94) (by decide +kernel) rfl, by decide +kernel, by decide⟩, gw_mk (i := 886) (by decide +kernel) rfl, gw_mk (i := 887) (by decide +kernel) rfl⟩
set_option maxRecDepth 20000 in
theorem mi_X10_sings : Mv yX10_sings cX10_sings 3 (some .int) 2 := ⟨⟨gw_mk (i := 974) (by decide +kernel) rfl, gw_mk (i := 94) (by decide +kernel) rfl, by decide +kernel, by decide⟩, gw_mk (i := 972) (by decide +kernel) rfl, gw_mk (i := 973) (by decide +kernel) rfl⟩
set_option maxRecDepth 20000 in
theorem mi_X10_takenSeats : Mv yX10_takenSeats cX10_takenSeats 3 (some .int) 0 := ⟨⟨gw_mk (i := 1110) (by decide +kernel) rfl, gw_mk (i := 94) (by decide +kernel) rfl, by decide +kernel, by decide⟩, gw_mk (i := 1109) (by decide +kernel) rfl, gw_mk (i := 80) (by decide +kernel) rfl⟩
set_option maxRecDepth 20000 in
theorem mi_X10_thousandTo : Ms yX10_thousandTo cX10_thousandTo 4 (some .long) 1 := ⟨⟨gw_mk (i := 1027) (by decide +kernel) rfl, gw_mk (i := 94) (by decide +kernel) rfl, by decide +kernel, by decide⟩, gw_mk (i := 1026) (by decide +kernel) rfl⟩
set_option maxRecDepth 20000 in
theorem mi_X10_tryThing : Mv yX10_tryThing cX10_tryThing 6 (some .boolean) 3 := ⟨⟨gw_mk (i := 1032) (by decide +kernel) rfl, gw_mk (i := 94) (by decide +kernel) rfl, by decide +kernel, by decide⟩, gw_mk (i := 1031) (by decide +kernel) rfl, gw_mk (i := 75) (by decide +kernel) rfl⟩
set_option maxRecDepth 20000 in
theorem mi_X10_undo : Mv yX10_undo cX10_undo 2 (some .int) 0 := ⟨⟨gw_mk (i := 970) (by decide +kernel) rfl, gw_mk (i := 94) (by decide +kernel) rfl, by decide +kernel, by decide⟩, gw_mk (i := 968) (by decide +kernel) rfl, gw_mk (i := 969) (by decide +kernel) rfl⟩
set_option maxRecDepth 20000 in
theorem mi_X10_unhear : Mv yX10_unhear cX10_unhear 2 (some .int) 0 := ⟨⟨gw_mk (i := 1040) (by decide +kernel) rfl, gw_mk (i := 94) (by decide +kernel) rfl, by decide +kernel, by decide⟩, gw_mk (i := 1038) (by decide +kernel) rfl, gw_mk (i := 1039) (by decide +kernel) rfl⟩
set_option maxRecDepth 20000 in
theorem mi_X10_unison : Mv yX10_unison cX10_unison 2 (some .int) 0 := ⟨⟨gw_mk (i := 999) (by decide +kernel) rfl, gw_mk (i := 94) (by decide +kernel) rfl, by decide +kernel, by decide⟩, gw_mk (i := 997) (by decide +kernel) rfl, gw_mk (i := 998) (by decide +kernel) rfl⟩
set_option maxRecDepth 20000 in
theorem mi_X10_whoAt : Mv yX10_whoAt cX10_whoAt 3 (some .int) 1 := ⟨⟨gw_mk (i := 915) (by decide +kernel) rfl, gw_mk (i := 94) (by decide +kernel) rfl, by decide +kernel, by decide⟩, gw_mk (i := 914) (by decide +kernel) rfl, gw_mk (i := 61) (by decide +kernel) rfl⟩
set_option maxRecDepth 20000 in
theorem mi_X10_wipe : Mv yX10_wipe cX10_wipe 2 (some .int) 0 := ⟨⟨gw_mk (i := 860) (by decide +kernel) rfl, gw_mk (i := 94) (by decide +kernel) rfl, by decide +kernel, by decide⟩, gw_mk (i := 858) (by decide +kernel) rfl, gw_mk (i := 859) (by decide +kernel) rfl⟩
set_option maxRecDepth 20000 in
theorem mi_X10_write : Mv yX10_write cX10_write 2 (some .int) 1 := ⟨⟨gw_mk (i := 852) (by decide +kernel) rfl, gw_mk (i := 94) (by decide +kernel) rfl, by decide +kernel, by decide⟩, gw_mk (i := 850) (by decide +kernel) rfl, gw_mk (i := 851) (by decide +kernel) rfl⟩
set_option maxRecDepth 20000 in
theorem mi_X10_years : Mv yX10_years cX10_years 5 (some .int) 1 := ⟨⟨gw_mk (i := 1090) (by decide +kernel) rfl, gw_mk (i := 94) (by decide +kernel) rfl, by decide +kernel, by decide⟩, gw_mk (i := 1088) (by decide +kernel) rfl, gw_mk (i := 1089) (by decide +kernel) rfl⟩
set_option maxRecDepth 20000 in
theorem mi_X1_chanceOfOneNote : Mv yX1_chanceOfOneNote cX1_chanceOfOneNote 9 (some .int) 3 := ⟨⟨gw_mk (i := 700) (by decide +kernel) rfl, gw_mk (i := 92) (by decide +kernel) rfl, by decide +kernel, by decide⟩, gw_mk (i := 699) (by decide +kernel) rfl, gw_mk (i := 46) (by decide +kernel) rfl⟩
set_option maxRecDepth 20000 in
theorem mi_X1_factorial : Ms yX1_factorial cX1_factorial 1 (some .int) 1 := ⟨⟨gw_mk (i := 660) (by decide +kernel) rfl, gw_mk (i := 92) (by decide +kernel) rfl, by decide +kernel, by decide⟩, gw_mk (i := 659) (by decide +kernel) rfl⟩
set_option maxRecDepth 20000 in
theorem mi_X1_giveAndCount : Mv yX1_giveAndCount cX1_giveAndCount 5 (none) 4 := ⟨⟨gw_mk (i := 683) (by decide +kernel) rfl, gw_mk (i := 92) (by decide +kernel) rfl, by decide +kernel, by decide⟩, gw_mk (i := 682) (by decide +kernel) rfl, gw_mk (i := 43) (by decide +kernel) rfl⟩
set_option maxRecDepth 20000 in
theorem mi_X1_isAtRest : Mv yX1_isAtRest cX1_isAtRest 5 (some .boolean) 2 := ⟨⟨gw_mk (i := 692) (by decide +kernel) rfl, gw_mk (i := 92) (by decide +kernel) rfl, by decide +kernel, by decide⟩, gw_mk (i := 691) (by decide +kernel) rfl, gw_mk (i := 45) (by decide +kernel) rfl⟩
set_option maxRecDepth 20000 in
theorem mi_X1_meanGain : Mv yX1_meanGain cX1_meanGain 7 (some .int) 2 := ⟨⟨gw_mk (i := 644) (by decide +kernel) rfl, gw_mk (i := 92) (by decide +kernel) rfl, by decide +kernel, by decide⟩, gw_mk (i := 643) (by decide +kernel) rfl, gw_mk (i := 39) (by decide +kernel) rfl⟩
set_option maxRecDepth 20000 in
theorem mi_X1_ordersOf : Mv yX1_ordersOf cX1_ordersOf 2 (some .int) 1 := ⟨⟨gw_mk (i := 657) (by decide +kernel) rfl, gw_mk (i := 92) (by decide +kernel) rfl, by decide +kernel, by decide⟩, gw_mk (i := 656) (by decide +kernel) rfl, gw_mk (i := 41) (by decide +kernel) rfl⟩
set_option maxRecDepth 20000 in
theorem mi_X1_restingPairs : Mv yX1_restingPairs cX1_restingPairs 8 (some .int) 3 := ⟨⟨gw_mk (i := 679) (by decide +kernel) rfl, gw_mk (i := 92) (by decide +kernel) rfl, by decide +kernel, by decide⟩, gw_mk (i := 678) (by decide +kernel) rfl, gw_mk (i := 42) (by decide +kernel) rfl⟩
set_option maxRecDepth 20000 in
theorem mi_X1_richnessOfSome : Mv yX1_richnessOfSome cX1_richnessOfSome 3 (some .int) 2 := ⟨⟨gw_mk (i := 649) (by decide +kernel) rfl, gw_mk (i := 92) (by decide +kernel) rfl, by decide +kernel, by decide⟩, gw_mk (i := 648) (by decide +kernel) rfl, gw_mk (i := 40) (by decide +kernel) rfl⟩
set_option maxRecDepth 20000 in
theorem mi_X2_canBe : Mv yX2_canBe cX2_canBe 4 (some .boolean) 3 := ⟨⟨gw_mk (i := 600) (by decide +kernel) rfl, gw_mk (i := 91) (by decide +kernel) rfl, by decide +kernel, by decide⟩, gw_mk (i := 599) (by decide +kernel) rfl, gw_mk (i := 33) (by decide +kernel) rfl⟩
set_option maxRecDepth 20000 in
theorem mi_X2_firstOneNote : Mv yX2_firstOneNote cX2_firstOneNote 2 (some .int) 0 := ⟨⟨gw_mk (i := 562) (by decide +kernel) rfl, gw_mk (i := 91) (by decide +kernel) rfl, by decide +kernel, by decide⟩, gw_mk (i := 561) (by decide +kernel) rfl, gw_mk (i := 29) (by decide +kernel) rfl⟩
set_option maxRecDepth 20000 in
theorem mi_X2_firstReturn : Mv yX2_firstReturn cX2_firstReturn 4 (some .int) 1 := ⟨⟨gw_mk (i := 550) (by decide +kernel) rfl, gw_mk (i := 91) (by decide +kernel) rfl, by decide +kernel, by decide⟩, gw_mk (i := 549) (by decide +kernel) rfl, gw_mk (i := 27) (by decide +kernel) rfl⟩
set_option maxRecDepth 20000 in
theorem mi_X2_firstWrongDoing : Mv yX2_firstWrongDoing cX2_firstWrongDoing 9 (some .int) 2 := ⟨⟨gw_mk (i := 594) (by decide +kernel) rfl, gw_mk (i := 91) (by decide +kernel) rfl, by decide +kernel, by decide⟩, gw_mk (i := 593) (by decide +kernel) rfl, gw_mk (i := 32) (by decide +kernel) rfl⟩
set_option maxRecDepth 20000 in
theorem mi_X2_goodsThatFit : Mv yX2_goodsThatFit cX2_goodsThatFit 5 (some .int) 2 := ⟨⟨gw_mk (i := 627) (by decide +kernel) rfl, gw_mk (i := 91) (by decide +kernel) rfl, by decide +kernel, by decide⟩, gw_mk (i := 626) (by decide +kernel) rfl, gw_mk (i := 36) (by decide +kernel) rfl⟩
set_option maxRecDepth 20000 in
theorem mi_X2_happen : Mv yX2_happen cX2_happen 4 (none) 3 := ⟨⟨gw_mk (i := 606) (by decide +kernel) rfl, gw_mk (i := 91) (by decide +kernel) rfl, by decide +kernel, by decide⟩, gw_mk (i := 605) (by decide +kernel) rfl, gw_mk (i := 34) (by decide +kernel) rfl⟩
set_option maxRecDepth 20000 in
theorem mi_X2_isAllHeard : Mv yX2_isAllHeard cX2_isAllHeard 3 (some .boolean) 1 := ⟨⟨gw_mk (i := 631) (by decide +kernel) rfl, gw_mk (i := 91) (by decide +kernel) rfl, by decide +kernel, by decide⟩, gw_mk (i := 630) (by decide +kernel) rfl, gw_mk (i := 37) (by decide +kernel) rfl⟩
set_option maxRecDepth 20000 in
theorem mi_X2_leastGift : Mv yX2_leastGift cX2_leastGift 7 (some .int) 4 := ⟨⟨gw_mk (i := 570) (by decide +kernel) rfl, gw_mk (i := 91) (by decide +kernel) rfl, by decide +kernel, by decide⟩, gw_mk (i := 569) (by decide +kernel) rfl, gw_mk (i := 30) (by decide +kernel) rfl⟩
set_option maxRecDepth 20000 in
theorem mi_X2_noteBehind : Mv yX2_noteBehind cX2_noteBehind 3 (some .int) 2 := ⟨⟨gw_mk (i := 531) (by decide +kernel) rfl, gw_mk (i := 91) (by decide +kernel) rfl, by decide +kernel, by decide⟩, gw_mk (i := 530) (by decide +kernel) rfl, gw_mk (i := 25) (by decide +kernel) rfl⟩
set_option maxRecDepth 20000 in
theorem mi_X2_richestChange : Mv yX2_richestChange cX2_richestChange 8 (some .int) 2 := ⟨⟨gw_mk (i := 580) (by decide +kernel) rfl, gw_mk (i := 91) (by decide +kernel) rfl, by decide +kernel, by decide⟩, gw_mk (i := 579) (by decide +kernel) rfl, gw_mk (i := 31) (by decide +kernel) rfl⟩
set_option maxRecDepth 20000 in
theorem mi_X2_richnessBehind : Mv yX2_richnessBehind cX2_richnessBehind 2 (some .int) 1 := ⟨⟨gw_mk (i := 541) (by decide +kernel) rfl, gw_mk (i := 91) (by decide +kernel) rfl, by decide +kernel, by decide⟩, gw_mk (i := 540) (by decide +kernel) rfl, gw_mk (i := 26) (by decide +kernel) rfl⟩
set_option maxRecDepth 20000 in
theorem mi_X3_allowsAt : Mv yX3_allowsAt cX3_allowsAt 5 (some .boolean) 2 := ⟨⟨gw_mk (i := 635) (by decide +kernel) rfl, gw_mk (i := 90) (by decide +kernel) rfl, by decide +kernel, by decide⟩, gw_mk (i := 634) (by decide +kernel) rfl, gw_mk (i := 38) (by decide +kernel) rfl⟩
set_option maxRecDepth 20000 in
theorem mi_X3_put : Mv yX3_put cX3_put 4 (some .boolean) 3 := ⟨⟨gw_mk (i := 615) (by decide +kernel) rfl, gw_mk (i := 90) (by decide +kernel) rfl, by decide +kernel, by decide⟩, gw_mk (i := 614) (by decide +kernel) rfl, gw_mk (i := 35) (by decide +kernel) rfl⟩
set_option maxRecDepth 20000 in
theorem mi_X4_everybody : Mv yX4_everybody cX4_everybody 1 (some .int) 0 := ⟨⟨gw_mk (i := 389) (by decide +kernel) rfl, gw_mk (i := 86) (by decide +kernel) rfl, by decide +kernel, by decide⟩, gw_mk (i := 388) (by decide +kernel) rfl, gw_mk (i := 3) (by decide +kernel) rfl⟩
set_option maxRecDepth 20000 in
theorem mi_X5_canStand : Ms yX5_canStand cX5_canStand 4 (some .boolean) 3 := ⟨⟨gw_mk (i := 368) (by decide +kernel) rfl, gw_mk (i := 85) (by decide +kernel) rfl, by decide +kernel, by decide⟩, gw_mk (i := 367) (by decide +kernel) rfl⟩
set_option maxRecDepth 20000 in
theorem mi_X5_firstFault : Mv yX5_firstFault cX5_firstFault 3 (some .int) 0 := ⟨⟨gw_mk (i := 365) (by decide +kernel) rfl, gw_mk (i := 85) (by decide +kernel) rfl, by decide +kernel, by decide⟩, gw_mk (i := 364) (by decide +kernel) rfl, gw_mk (i := 1) (by decide +kernel) rfl⟩
set_option maxRecDepth 20000 in
theorem mi_X5_part : Ms yX5_part cX5_part 1 (some .int) 1 := ⟨⟨gw_mk (i := 371) (by decide +kernel) rfl, gw_mk (i := 85) (by decide +kernel) rfl, by decide +kernel, by decide⟩, gw_mk (i := 370) (by decide +kernel) rfl⟩
set_option maxRecDepth 20000 in
theorem mi_X5_put : Mv yX5_put cX5_put 2 (some .boolean) 1 := ⟨⟨gw_mk (i := 353) (by decide +kernel) rfl, gw_mk (i := 85) (by decide +kernel) rfl, by decide +kernel, by decide⟩, gw_mk (i := 352) (by decide +kernel) rfl, gw_mk (i := 0) (by decide +kernel) rfl⟩
set_option maxRecDepth 20000 in
theorem mi_X5_tellTo : Mv yX5_tellTo cX5_tellTo 5 (none) 2 := ⟨⟨gw_mk (i := 382) (by decide +kernel) rfl, gw_mk (i := 85) (by decide +kernel) rfl, by decide +kernel, by decide⟩, gw_mk (i := 381) (by decide +kernel) rfl, gw_mk (i := 2) (by decide +kernel) rfl⟩
set_option maxRecDepth 20000 in
theorem mi_X6_forgetAll : Mv yX6_forgetAll cX6_forgetAll 1 (none) 0 := ⟨⟨gw_mk (i := 404) (by decide +kernel) rfl, gw_mk (i := 89) (by decide +kernel) rfl, by decide +kernel, by decide⟩, gw_mk (i := 403) (by decide +kernel) rfl, gw_mk (i := 6) (by decide +kernel) rfl⟩
set_option maxRecDepth 20000 in
theorem mi_X6_giveBack : Mv yX6_giveBack cX6_giveBack 3 (some .boolean) 2 := ⟨⟨gw_mk (i := 748) (by decide +kernel) rfl, gw_mk (i := 89) (by decide +kernel) rfl, by decide +kernel, by decide⟩, gw_mk (i := 747) (by decide +kernel) rfl, gw_mk (i := 50) (by decide +kernel) rfl⟩
set_option maxRecDepth 20000 in
theorem mi_X6_put : Mv yX6_put cX6_put 3 (some .boolean) 2 := ⟨⟨gw_mk (i := 738) (by decide +kernel) rfl, gw_mk (i := 89) (by decide +kernel) rfl, by decide +kernel, by decide⟩, gw_mk (i := 737) (by decide +kernel) rfl, gw_mk (i := 49) (by decide +kernel) rfl⟩
set_option maxRecDepth 20000 in
theorem mi_X7_bitsOf : Mv yX7_bitsOf cX7_bitsOf 4 (some .int) 1 := ⟨⟨gw_mk (i := 480) (by decide +kernel) rfl, gw_mk (i := 87) (by decide +kernel) rfl, by decide +kernel, by decide⟩, gw_mk (i := 479) (by decide +kernel) rfl, gw_mk (i := 20) (by decide +kernel) rfl⟩
set_option maxRecDepth 20000 in
theorem mi_X7_copyFrom : Mv yX7_copyFrom cX7_copyFrom 2 (none) 1 := ⟨⟨gw_mk (i := 454) (by decide +kernel) rfl, gw_mk (i := 87) (by decide +kernel) rfl, by decide +kernel, by decide⟩, gw_mk (i := 453) (by decide +kernel) rfl, gw_mk (i := 15) (by decide +kernel) rfl⟩
set_option maxRecDepth 20000 in
theorem mi_X7_enviedBy : Mv yX7_enviedBy cX7_enviedBy 7 (some .int) 1 := ⟨⟨gw_mk (i := 424) (by decide +kernel) rfl, gw_mk (i := 87) (by decide +kernel) rfl, by decide +kernel, by decide⟩, gw_mk (i := 423) (by decide +kernel) rfl, gw_mk (i := 10) (by decide +kernel) rfl⟩
set_option maxRecDepth 20000 in
theorem mi_X7_envious : Mv yX7_envious cX7_envious 3 (some .int) 0 := ⟨⟨gw_mk (i := 765) (by decide +kernel) rfl, gw_mk (i := 87) (by decide +kernel) rfl, by decide +kernel, by decide⟩, gw_mk (i := 764) (by decide +kernel) rfl, gw_mk (i := 53) (by decide +kernel) rfl⟩
set_option maxRecDepth 20000 in
theorem mi_X7_give : Mv yX7_give cX7_give 3 (none) 2 := ⟨⟨gw_mk (i := 494) (by decide +kernel) rfl, gw_mk (i := 87) (by decide +kernel) rfl, by decide +kernel, by decide⟩, gw_mk (i := 493) (by decide +kernel) rfl, gw_mk (i := 21) (by decide +kernel) rfl⟩
set_option maxRecDepth 20000 in
theorem mi_X7_goOn : Mv yX7_goOn cX7_goOn 5 (none) 1 := ⟨⟨gw_mk (i := 459) (by decide +kernel) rfl, gw_mk (i := 87) (by decide +kernel) rfl, by decide +kernel, by decide⟩, gw_mk (i := 458) (by decide +kernel) rfl, gw_mk (i := 16) (by decide +kernel) rfl⟩
set_option maxRecDepth 20000 in
theorem mi_X7_goodsOfAll : Mv yX7_goodsOfAll cX7_goodsOfAll 3 (some .int) 0 := ⟨⟨gw_mk (i := 761) (by decide +kernel) rfl, gw_mk (i := 87) (by decide +kernel) rfl, by decide +kernel, by decide⟩, gw_mk (i := 760) (by decide +kernel) rfl, gw_mk (i := 52) (by decide +kernel) rfl⟩
set_option maxRecDepth 20000 in
theorem mi_X7_howManySing : Mv yX7_howManySing cX7_howManySing 4 (some .int) 1 := ⟨⟨gw_mk (i := 688) (by decide +kernel) rfl, gw_mk (i := 87) (by decide +kernel) rfl, by decide +kernel, by decide⟩, gw_mk (i := 687) (by decide +kernel) rfl, gw_mk (i := 44) (by decide +kernel) rfl⟩
set_option maxRecDepth 20000 in
theorem mi_X7_isHeld : Mv yX7_isHeld cX7_isHeld 2 (some .boolean) 1 := ⟨⟨gw_mk (i := 428) (by decide +kernel) rfl, gw_mk (i := 87) (by decide +kernel) rfl, by decide +kernel, by decide⟩, gw_mk (i := 427) (by decide +kernel) rfl, gw_mk (i := 11) (by decide +kernel) rfl⟩
set_option maxRecDepth 20000 in
theorem mi_X7_isHeldOn : Mv yX7_isHeldOn cX7_isHeldOn 2 (some .boolean) 1 := ⟨⟨gw_mk (i := 432) (by decide +kernel) rfl, gw_mk (i := 87) (by decide +kernel) rfl, by decide +kernel, by decide⟩, gw_mk (i := 431) (by decide +kernel) rfl, gw_mk (i := 12) (by decide +kernel) rfl⟩
set_option maxRecDepth 20000 in
theorem mi_X7_isSeen : Mv yX7_isSeen cX7_isSeen 4 (some .boolean) 2 := ⟨⟨gw_mk (i := 420) (by decide +kernel) rfl, gw_mk (i := 87) (by decide +kernel) rfl, by decide +kernel, by decide⟩, gw_mk (i := 419) (by decide +kernel) rfl, gw_mk (i := 9) (by decide +kernel) rfl⟩
set_option maxRecDepth 20000 in
theorem mi_X7_isThere : Mv yX7_isThere cX7_isThere 2 (some .boolean) 1 := ⟨⟨gw_mk (i := 412) (by decide +kernel) rfl, gw_mk (i := 87) (by decide +kernel) rfl, by decide +kernel, by decide⟩, gw_mk (i := 411) (by decide +kernel) rfl, gw_mk (i := 7) (by decide +kernel) rfl⟩
set_option maxRecDepth 20000 in
theorem mi_X7_nextNoteOf : Mv yX7_nextNoteOf cX7_nextNoteOf 5 (some .int) 1 := ⟨⟨gw_mk (i := 463) (by decide +kernel) rfl, gw_mk (i := 87) (by decide +kernel) rfl, by decide +kernel, by decide⟩, gw_mk (i := 462) (by decide +kernel) rfl, gw_mk (i := 17) (by decide +kernel) rfl⟩
set_option maxRecDepth 20000 in
theorem mi_X7_notesAsNumber : Mv yX7_notesAsNumber cX7_notesAsNumber 3 (some .int) 0 := ⟨⟨gw_mk (i := 554) (by decide +kernel) rfl, gw_mk (i := 87) (by decide +kernel) rfl, by decide +kernel, by decide⟩, gw_mk (i := 553) (by decide +kernel) rfl, gw_mk (i := 28) (by decide +kernel) rfl⟩
set_option maxRecDepth 20000 in
theorem mi_X7_notesSung : Mv yX7_notesSung cX7_notesSung 1 (some .int) 0 := ⟨⟨gw_mk (i := 476) (by decide +kernel) rfl, gw_mk (i := 87) (by decide +kernel) rfl, by decide +kernel, by decide⟩, gw_mk (i := 475) (by decide +kernel) rfl, gw_mk (i := 19) (by decide +kernel) rfl⟩
set_option maxRecDepth 20000 in
theorem mi_X7_richness : Mv yX7_richness cX7_richness 1 (some .int) 0 := ⟨⟨gw_mk (i := 472) (by decide +kernel) rfl, gw_mk (i := 87) (by decide +kernel) rfl, by decide +kernel, by decide⟩, gw_mk (i := 471) (by decide +kernel) rfl, gw_mk (i := 18) (by decide +kernel) rfl⟩
set_option maxRecDepth 20000 in
theorem mi_X7_seatsTaken : Mv yX7_seatsTaken cX7_seatsTaken 1 (some .int) 0 := ⟨⟨gw_mk (i := 756) (by decide +kernel) rfl, gw_mk (i := 87) (by decide +kernel) rfl, by decide +kernel, by decide⟩, gw_mk (i := 755) (by decide +kernel) rfl, gw_mk (i := 51) (by decide +kernel) rfl⟩
set_option maxRecDepth 20000 in
theorem mi_X7_seenBy : Mv yX7_seenBy cX7_seenBy 4 (some .int) 1 := ⟨⟨gw_mk (i := 416) (by decide +kernel) rfl, gw_mk (i := 87) (by decide +kernel) rfl, by decide +kernel, by decide⟩, gw_mk (i := 415) (by decide +kernel) rfl, gw_mk (i := 8) (by decide +kernel) rfl⟩
set_option maxRecDepth 20000 in
theorem mi_X7_swapSeats : Mv yX7_swapSeats cX7_swapSeats 4 (none) 2 := ⟨⟨gw_mk (i := 502) (by decide +kernel) rfl, gw_mk (i := 87) (by decide +kernel) rfl, by decide +kernel, by decide⟩, gw_mk (i := 501) (by decide +kernel) rfl, gw_mk (i := 22) (by decide +kernel) rfl⟩
set_option maxRecDepth 20000 in
theorem mi_X7_takeVoices : Mv yX7_takeVoices cX7_takeVoices 1 (none) 0 := ⟨⟨gw_mk (i := 393) (by decide +kernel) rfl, gw_mk (i := 87) (by decide +kernel) rfl, by decide +kernel, by decide⟩, gw_mk (i := 392) (by decide +kernel) rfl, gw_mk (i := 4) (by decide +kernel) rfl⟩
set_option maxRecDepth 20000 in
theorem mi_X7_turnHeldOn : Mv yX7_turnHeldOn cX7_turnHeldOn 2 (none) 1 := ⟨⟨gw_mk (i := 515) (by decide +kernel) rfl, gw_mk (i := 87) (by decide +kernel) rfl, by decide +kernel, by decide⟩, gw_mk (i := 514) (by decide +kernel) rfl, gw_mk (i := 23) (by decide +kernel) rfl⟩
set_option maxRecDepth 20000 in
theorem mi_X7_whoIsAt : Mv yX7_whoIsAt cX7_whoIsAt 3 (some .int) 1 := ⟨⟨gw_mk (i := 441) (by decide +kernel) rfl, gw_mk (i := 87) (by decide +kernel) rfl, by decide +kernel, by decide⟩, gw_mk (i := 440) (by decide +kernel) rfl, gw_mk (i := 13) (by decide +kernel) rfl⟩
set_option maxRecDepth 20000 in
theorem mi_X8_goThrough : Mv yX8_goThrough cX8_goThrough 4 (some .int) 1 := ⟨⟨gw_mk (i := 715) (by decide +kernel) rfl, gw_mk (i := 93) (by decide +kernel) rfl, by decide +kernel, by decide⟩, gw_mk (i := 714) (by decide +kernel) rfl, gw_mk (i := 47) (by decide +kernel) rfl⟩
set_option maxRecDepth 20000 in
theorem mi_X8_happen : Mv yX8_happen cX8_happen 2 (none) 1 := ⟨⟨gw_mk (i := 723) (by decide +kernel) rfl, gw_mk (i := 93) (by decide +kernel) rfl, by decide +kernel, by decide⟩, gw_mk (i := 722) (by decide +kernel) rfl, gw_mk (i := 48) (by decide +kernel) rfl⟩
set_option maxRecDepth 20000 in
theorem mi_X9_again : Mv yX9_again cX9_again 2 (some .int) 1 := ⟨⟨gw_mk (i := 744) (by decide +kernel) rfl, gw_mk (i := 84) (by decide +kernel) rfl, by decide +kernel, by decide⟩, gw_mk (i := 742) (by decide +kernel) rfl, gw_mk (i := 743) (by decide +kernel) rfl⟩
set_option maxRecDepth 20000 in
theorem mi_X9_bar : Mv yX9_bar cX9_bar 1 (some .int) 0 := ⟨⟨gw_mk (i := 446) (by decide +kernel) rfl, gw_mk (i := 84) (by decide +kernel) rfl, by decide +kernel, by decide⟩, gw_mk (i := 444) (by decide +kernel) rfl, gw_mk (i := 445) (by decide +kernel) rfl⟩
set_option maxRecDepth 20000 in
theorem mi_X9_best : Mv yX9_best cX9_best 3 (some .int) 2 := ⟨⟨gw_mk (i := 576) (by decide +kernel) rfl, gw_mk (i := 84) (by decide +kernel) rfl, by decide +kernel, by decide⟩, gw_mk (i := 574) (by decide +kernel) rfl, gw_mk (i := 575) (by decide +kernel) rfl⟩
set_option maxRecDepth 20000 in
theorem mi_X9_change : Mv yX9_change cX9_change 3 (some .int) 2 := ⟨⟨gw_mk (i := 498) (by decide +kernel) rfl, gw_mk (i := 84) (by decide +kernel) rfl, by decide +kernel, by decide⟩, gw_mk (i := 496) (by decide +kernel) rfl, gw_mk (i := 497) (by decide +kernel) rfl⟩
set_option maxRecDepth 20000 in
theorem mi_X9_choir : Mv yX9_choir cX9_choir 1 (some .int) 0 := ⟨⟨gw_mk (i := 378) (by decide +kernel) rfl, gw_mk (i := 84) (by decide +kernel) rfl, by decide +kernel, by decide⟩, gw_mk (i := 376) (by decide +kernel) rfl, gw_mk (i := 377) (by decide +kernel) rfl⟩
set_option maxRecDepth 20000 in
theorem mi_X9_count : Mv yX9_count cX9_count 2 (some .int) 1 := ⟨⟨gw_mk (i := 752) (by decide +kernel) rfl, gw_mk (i := 84) (by decide +kernel) rfl, by decide +kernel, by decide⟩, gw_mk (i := 750) (by decide +kernel) rfl, gw_mk (i := 751) (by decide +kernel) rfl⟩
set_option maxRecDepth 20000 in
theorem mi_X9_fault : Mv yX9_fault cX9_fault 1 (some .int) 0 := ⟨⟨gw_mk (i := 361) (by decide +kernel) rfl, gw_mk (i := 84) (by decide +kernel) rfl, by decide +kernel, by decide⟩, gw_mk (i := 359) (by decide +kernel) rfl, gw_mk (i := 360) (by decide +kernel) rfl⟩
set_option maxRecDepth 20000 in
theorem mi_X9_gets : Mv yX9_gets cX9_gets 5 (some .int) 4 := ⟨⟨gw_mk (i := 566) (by decide +kernel) rfl, gw_mk (i := 84) (by decide +kernel) rfl, by decide +kernel, by decide⟩, gw_mk (i := 564) (by decide +kernel) rfl, gw_mk (i := 565) (by decide +kernel) rfl⟩
set_option maxRecDepth 20000 in
theorem mi_X9_gift : Mv yX9_gift cX9_gift 3 (some .int) 2 := ⟨⟨gw_mk (i := 490) (by decide +kernel) rfl, gw_mk (i := 84) (by decide +kernel) rfl, by decide +kernel, by decide⟩, gw_mk (i := 488) (by decide +kernel) rfl, gw_mk (i := 489) (by decide +kernel) rfl⟩
set_option maxRecDepth 20000 in
theorem mi_X9_greatestDivisor : Ms yX9_greatestDivisor cX9_greatestDivisor 6 (some .int) 2 := ⟨⟨gw_mk (i := 671) (by decide +kernel) rfl, gw_mk (i := 84) (by decide +kernel) rfl, by decide +kernel, by decide⟩, gw_mk (i := 670) (by decide +kernel) rfl⟩
set_option maxRecDepth 20000 in
theorem mi_X9_had : Mv yX9_had cX9_had 2 (some .int) 1 := ⟨⟨gw_mk (i := 623) (by decide +kernel) rfl, gw_mk (i := 84) (by decide +kernel) rfl, by decide +kernel, by decide⟩, gw_mk (i := 621) (by decide +kernel) rfl, gw_mk (i := 622) (by decide +kernel) rfl⟩
set_option maxRecDepth 20000 in
theorem mi_X9_hear : Mv yX9_hear cX9_hear 4 (some .int) 3 := ⟨⟨gw_mk (i := 611) (by decide +kernel) rfl, gw_mk (i := 84) (by decide +kernel) rfl, by decide +kernel, by decide⟩, gw_mk (i := 609) (by decide +kernel) rfl, gw_mk (i := 610) (by decide +kernel) rfl⟩
set_option maxRecDepth 20000 in
theorem mi_X9_hoarse : Mv yX9_hoarse cX9_hoarse 4 (some .int) 3 := ⟨⟨gw_mk (i := 696) (by decide +kernel) rfl, gw_mk (i := 84) (by decide +kernel) rfl, by decide +kernel, by decide⟩, gw_mk (i := 694) (by decide +kernel) rfl, gw_mk (i := 695) (by decide +kernel) rfl⟩
set_option maxRecDepth 20000 in
theorem mi_X9_hold : Mv yX9_hold cX9_hold 2 (some .int) 1 := ⟨⟨gw_mk (i := 511) (by decide +kernel) rfl, gw_mk (i := 84) (by decide +kernel) rfl, by decide +kernel, by decide⟩, gw_mk (i := 509) (by decide +kernel) rfl, gw_mk (i := 510) (by decide +kernel) rfl⟩
set_option maxRecDepth 20000 in
theorem mi_X9_isWithin : Ms yX9_isWithin cX9_isWithin 3 (some .boolean) 3 := ⟨⟨gw_mk (i := 374) (by decide +kernel) rfl, gw_mk (i := 84) (by decide +kernel) rfl, by decide +kernel, by decide⟩, gw_mk (i := 373) (by decide +kernel) rfl⟩
set_option maxRecDepth 20000 in
theorem mi_X9_judge : Mv yX9_judge cX9_judge 4 (some .int) 2 := ⟨⟨gw_mk (i := 586) (by decide +kernel) rfl, gw_mk (i := 84) (by decide +kernel) rfl, by decide +kernel, by decide⟩, gw_mk (i := 584) (by decide +kernel) rfl, gw_mk (i := 585) (by decide +kernel) rfl⟩
set_option maxRecDepth 20000 in
theorem mi_X9_keep : Mv yX9_keep cX9_keep 2 (some .int) 1 := ⟨⟨gw_mk (i := 734) (by decide +kernel) rfl, gw_mk (i := 84) (by decide +kernel) rfl, by decide +kernel, by decide⟩, gw_mk (i := 732) (by decide +kernel) rfl, gw_mk (i := 733) (by decide +kernel) rfl⟩
set_option maxRecDepth 20000 in
theorem mi_X9_notes : Mv yX9_notes cX9_notes 2 (some .int) 1 := ⟨⟨gw_mk (i := 537) (by decide +kernel) rfl, gw_mk (i := 84) (by decide +kernel) rfl, by decide +kernel, by decide⟩, gw_mk (i := 535) (by decide +kernel) rfl, gw_mk (i := 536) (by decide +kernel) rfl⟩
set_option maxRecDepth 20000 in
theorem mi_X9_pitch : Mv yX9_pitch cX9_pitch 1 (some .int) 0 := ⟨⟨gw_mk (i := 506) (by decide +kernel) rfl, gw_mk (i := 84) (by decide +kernel) rfl, by decide +kernel, by decide⟩, gw_mk (i := 504) (by decide +kernel) rfl, gw_mk (i := 505) (by decide +kernel) rfl⟩
set_option maxRecDepth 20000 in
theorem mi_X9_power : Ms yX9_power cX9_power 4 (some .int) 2 := ⟨⟨gw_mk (i := 703) (by decide +kernel) rfl, gw_mk (i := 84) (by decide +kernel) rfl, by decide +kernel, by decide⟩, gw_mk (i := 702) (by decide +kernel) rfl⟩
set_option maxRecDepth 20000 in
theorem mi_X9_rests : Mv yX9_rests cX9_rests 4 (some .int) 3 := ⟨⟨gw_mk (i := 675) (by decide +kernel) rfl, gw_mk (i := 84) (by decide +kernel) rfl, by decide +kernel, by decide⟩, gw_mk (i := 673) (by decide +kernel) rfl, gw_mk (i := 674) (by decide +kernel) rfl⟩
set_option maxRecDepth 20000 in
theorem mi_X9_round : Mv yX9_round cX9_round 2 (some .int) 1 := ⟨⟨gw_mk (i := 546) (by decide +kernel) rfl, gw_mk (i := 84) (by decide +kernel) rfl, by decide +kernel, by decide⟩, gw_mk (i := 544) (by decide +kernel) rfl, gw_mk (i := 545) (by decide +kernel) rfl⟩
set_option maxRecDepth 20000 in
theorem mi_X9_seat : Mv yX9_seat cX9_seat 2 (some .int) 1 := ⟨⟨gw_mk (i := 436) (by decide +kernel) rfl, gw_mk (i := 84) (by decide +kernel) rfl, by decide +kernel, by decide⟩, gw_mk (i := 434) (by decide +kernel) rfl, gw_mk (i := 435) (by decide +kernel) rfl⟩
set_option maxRecDepth 20000 in
theorem mi_X9_seed : Mv yX9_seed cX9_seed 5 (some .long) 1 := ⟨⟨gw_mk (i := 707) (by decide +kernel) rfl, gw_mk (i := 84) (by decide +kernel) rfl, by decide +kernel, by decide⟩, gw_mk (i := 705) (by decide +kernel) rfl, gw_mk (i := 706) (by decide +kernel) rfl⟩
set_option maxRecDepth 20000 in
theorem mi_X9_share : Mv yX9_share cX9_share 3 (some .int) 2 := ⟨⟨gw_mk (i := 640) (by decide +kernel) rfl, gw_mk (i := 84) (by decide +kernel) rfl, by decide +kernel, by decide⟩, gw_mk (i := 638) (by decide +kernel) rfl, gw_mk (i := 639) (by decide +kernel) rfl⟩
set_option maxRecDepth 20000 in
theorem mi_X9_sideOfFraction : Ms yX9_sideOfFraction cX9_sideOfFraction 4 (some .int) 3 := ⟨⟨gw_mk (i := 665) (by decide +kernel) rfl, gw_mk (i := 84) (by decide +kernel) rfl, by decide +kernel, by decide⟩, gw_mk (i := 664) (by decide +kernel) rfl⟩
set_option maxRecDepth 20000 in
theorem mi_X9_singer : Mv yX9_singer cX9_singer 3 (some .int) 2 := ⟨⟨gw_mk (i := 408) (by decide +kernel) rfl, gw_mk (i := 84) (by decide +kernel) rfl, by decide +kernel, by decide⟩, gw_mk (i := 406) (by decide +kernel) rfl, gw_mk (i := 407) (by decide +kernel) rfl⟩
set_option maxRecDepth 20000 in
theorem mi_X9_sings : Mv yX9_sings cX9_sings 3 (some .int) 2 := ⟨⟨gw_mk (i := 527) (by decide +kernel) rfl, gw_mk (i := 84) (by decide +kernel) rfl, by decide +kernel, by decide⟩, gw_mk (i := 525) (by decide +kernel) rfl, gw_mk (i := 526) (by decide +kernel) rfl⟩
set_option maxRecDepth 20000 in
theorem mi_X9_undo : Mv yX9_undo cX9_undo 1 (some .int) 0 := ⟨⟨gw_mk (i := 519) (by decide +kernel) rfl, gw_mk (i := 84) (by decide +kernel) rfl, by decide +kernel, by decide⟩, gw_mk (i := 517) (by decide +kernel) rfl, gw_mk (i := 518) (by decide +kernel) rfl⟩
set_option maxRecDepth 20000 in
theorem mi_X9_unhear : Mv yX9_unhear cX9_unhear 2 (some .int) 0 := ⟨⟨gw_mk (i := 619) (by decide +kernel) rfl, gw_mk (i := 84) (by decide +kernel) rfl, by decide +kernel, by decide⟩, gw_mk (i := 617) (by decide +kernel) rfl, gw_mk (i := 618) (by decide +kernel) rfl⟩
set_option maxRecDepth 20000 in
theorem mi_X9_unison : Mv yX9_unison cX9_unison 1 (some .int) 0 := ⟨⟨gw_mk (i := 558) (by decide +kernel) rfl, gw_mk (i := 84) (by decide +kernel) rfl, by decide +kernel, by decide⟩, gw_mk (i := 556) (by decide +kernel) rfl, gw_mk (i := 557) (by decide +kernel) rfl⟩
set_option maxRecDepth 20000 in
theorem mi_X9_wipe : Mv yX9_wipe cX9_wipe 2 (some .int) 0 := ⟨⟨gw_mk (i := 357) (by decide +kernel) rfl, gw_mk (i := 84) (by decide +kernel) rfl, by decide +kernel, by decide⟩, gw_mk (i := 355) (by decide +kernel) rfl, gw_mk (i := 356) (by decide +kernel) rfl⟩
set_option maxRecDepth 20000 in
theorem mi_X9_withoutDoings : Ms yX9_withoutDoings cX9_withoutDoings 6 (some .long) 2 := ⟨⟨gw_mk (i := 589) (by decide +kernel) rfl, gw_mk (i := 84) (by decide +kernel) rfl, by decide +kernel, by decide⟩, gw_mk (i := 588) (by decide +kernel) rfl⟩
set_option maxRecDepth 20000 in
theorem mi_X9_write : Mv yX9_write cX9_write 2 (some .int) 1 := ⟨⟨gw_mk (i := 349) (by decide +kernel) rfl, gw_mk (i := 84) (by decide +kernel) rfl, by decide +kernel, by decide⟩, gw_mk (i := 347) (by decide +kernel) rfl, gw_mk (i := 348) (by decide +kernel) rfl⟩
set_option maxRecDepth 20000 in
theorem mi_X9_years : Mv yX9_years cX9_years 2 (some .int) 1 := ⟨⟨gw_mk (i := 711) (by decide +kernel) rfl, gw_mk (i := 84) (by decide +kernel) rfl, by decide +kernel, by decide⟩, gw_mk (i := 709) (by decide +kernel) rfl, gw_mk (i := 710) (by decide +kernel) rfl⟩
theorem ts_out3 {x : Int32} (c0 : ¬ x = 0) (c1 : ¬ x = 1) (c2 : ¬ x = 2) (c3 : ¬ x = 3) : x.toInt < 0 ∨ 3 < x.toInt := by
  by_cases h : x.toInt < 0 ∨ 3 < x.toInt
  · exact h
  · exfalso
    have h1 : 0 ≤ x.toInt ∧ x.toInt ≤ 3 := by omega
    have h2 : x = Int32.ofInt x.toInt := (Int32.ofInt_toInt x).symm
    rcases (show x.toInt = 0 ∨ x.toInt = 1 ∨ x.toInt = 2 ∨ x.toInt = 3 by omega) with e | e | e | e
    · exact c0 (by rw [h2, e]; decide)
    · exact c1 (by rw [h2, e]; decide)
    · exact c2 (by rw [h2, e]; decide)
    · exact c3 (by rw [h2, e]; decide)
theorem ts_out5 {x : Int32} (c0 : ¬ x = 0) (c1 : ¬ x = 1) (c2 : ¬ x = 2) (c3 : ¬ x = 3) (c4 : ¬ x = 4) (c5 : ¬ x = 5) : x.toInt < 0 ∨ 5 < x.toInt := by
  by_cases h : x.toInt < 0 ∨ 5 < x.toInt
  · exact h
  · exfalso
    have h1 : 0 ≤ x.toInt ∧ x.toInt ≤ 5 := by omega
    have h2 : x = Int32.ofInt x.toInt := (Int32.ofInt_toInt x).symm
    rcases (show x.toInt = 0 ∨ x.toInt = 1 ∨ x.toInt = 2 ∨ x.toInt = 3 ∨ x.toInt = 4 ∨ x.toInt = 5 by omega) with e | e | e | e | e | e
    · exact c0 (by rw [h2, e]; decide)
    · exact c1 (by rw [h2, e]; decide)
    · exact c2 (by rw [h2, e]; decide)
    · exact c3 (by rw [h2, e]; decide)
    · exact c4 (by rw [h2, e]; decide)
    · exact c5 (by rw [h2, e]; decide)
theorem ts_out8 {x : Int32} (c0 : ¬ x = 0) (c1 : ¬ x = 1) (c2 : ¬ x = 2) (c3 : ¬ x = 3) (c4 : ¬ x = 4) (c5 : ¬ x = 5) (c6 : ¬ x = 6) (c7 : ¬ x = 7) (c8 : ¬ x = 8) : x.toInt < 0 ∨ 8 < x.toInt := by
  by_cases h : x.toInt < 0 ∨ 8 < x.toInt
  · exact h
  · exfalso
    have h1 : 0 ≤ x.toInt ∧ x.toInt ≤ 8 := by omega
    have h2 : x = Int32.ofInt x.toInt := (Int32.ofInt_toInt x).symm
    rcases (show x.toInt = 0 ∨ x.toInt = 1 ∨ x.toInt = 2 ∨ x.toInt = 3 ∨ x.toInt = 4 ∨ x.toInt = 5 ∨ x.toInt = 6 ∨ x.toInt = 7 ∨ x.toInt = 8 by omega) with e | e | e | e | e | e | e | e | e
    · exact c0 (by rw [h2, e]; decide)
    · exact c1 (by rw [h2, e]; decide)
    · exact c2 (by rw [h2, e]; decide)
    · exact c3 (by rw [h2, e]; decide)
    · exact c4 (by rw [h2, e]; decide)
    · exact c5 (by rw [h2, e]; decide)
    · exact c6 (by rw [h2, e]; decide)
    · exact c7 (by rw [h2, e]; decide)
    · exact c8 (by rw [h2, e]; decide)
theorem ts_out9 {x : Int32} (c0 : ¬ x = 0) (c1 : ¬ x = 1) (c2 : ¬ x = 2) (c3 : ¬ x = 3) (c4 : ¬ x = 4) (c5 : ¬ x = 5) (c6 : ¬ x = 6) (c7 : ¬ x = 7) (c8 : ¬ x = 8) (c9 : ¬ x = 9) : x.toInt < 0 ∨ 9 < x.toInt := by
  by_cases h : x.toInt < 0 ∨ 9 < x.toInt
  · exact h
  · exfalso
    have h1 : 0 ≤ x.toInt ∧ x.toInt ≤ 9 := by omega
    have h2 : x = Int32.ofInt x.toInt := (Int32.ofInt_toInt x).symm
    rcases (show x.toInt = 0 ∨ x.toInt = 1 ∨ x.toInt = 2 ∨ x.toInt = 3 ∨ x.toInt = 4 ∨ x.toInt = 5 ∨ x.toInt = 6 ∨ x.toInt = 7 ∨ x.toInt = 8 ∨ x.toInt = 9 by omega) with e | e | e | e | e | e | e | e | e | e
    · exact c0 (by rw [h2, e]; decide)
    · exact c1 (by rw [h2, e]; decide)
    · exact c2 (by rw [h2, e]; decide)
    · exact c3 (by rw [h2, e]; decide)
    · exact c4 (by rw [h2, e]; decide)
    · exact c5 (by rw [h2, e]; decide)
    · exact c6 (by rw [h2, e]; decide)
    · exact c7 (by rw [h2, e]; decide)
    · exact c8 (by rw [h2, e]; decide)
    · exact c9 (by rw [h2, e]; decide)
theorem lo_X5_canStand {x : Int32} (c0 : ¬ x = 0) (c1 : ¬ x = 1) (c5 : ¬ x = 5) : Op.lookupswitch.offset (#[(0, 35), (1, 47), (5, 71)] : Array (Int × Int)).toList 78 x.toInt = 78 := by
  have h2 : x = Int32.ofInt x.toInt := (Int32.ofInt_toInt x).symm
  have e0 : ¬ x.toInt = 0 := fun e => c0 (by rw [h2, e]; decide)
  have e1 : ¬ x.toInt = 1 := fun e => c1 (by rw [h2, e]; decide)
  have e5 : ¬ x.toInt = 5 := fun e => c5 (by rw [h2, e]; decide)
  simp [Op.lookupswitch.offset, e0, e1, e5, Ne.symm e0, Ne.symm e1, Ne.symm e5, eq_comm]
