def f_X0_forgetAll (M : Mem) : Option (Mem) := lt_ (sw M 21 0 2 0) (fun M1 => some M1)
set_option maxHeartbeats 4000000 in
set_option maxRecDepth 100000 in
theorem ct_X0_forgetAll {g : GT} {l : Launch} {M : Mem} {t : Mem} (h : f_X0_forgetAll M = some t) : Ct g l 0 yX0_forgetAll cX0_forgetAll 1 (none) [.ref (ga g 21 0)] M (none) t := by
  refine ct_of (k := 0) (by decide) (Nat.le_of_ble_eq_true rfl) rfl (fun X C hl hr hR => ?_)
  subst hl
  have C : Cx g X cX0_forgetAll RX0 1 0 := C
  unfold f_X0_forgetAll at h
  refine kj_ald0 (pc := 0) C dX0_forgetAll_0 ?_
  refine kj_iconst (pc := 1) C (v := 0) dX0_forgetAll_1 ci_0 ?_
  obtain ⟨M1, eM1, h⟩ := of_lt h
  refine pf_X0_21 (pc := 2) C dX0_forgetAll_2 ?_
  refine kj_nM eM1 ?_
  cases h
  exact kj_vret (pc := 5) C hr hR dX0_forgetAll_5
def f_X7_copyFrom (o : Nat) (o1 : Nat) (M : Mem) : Option (Mem) := lt_ (sr M o 1 (va_cpy (M.1 o1 1) (M.1 o 1) 0 0 6)) (fun M1 => lt_ (sr M1 o 2 (va_cpy (M1.1 o1 2) (M1.1 o 2) 0 0 6)) (fun M2 => lt_ (sr M2 o 3 (va_cpy (M2.1 o1 3) (M2.1 o 3) 0 0 6)) (fun M3 => lt_ (sw M3 o 0 5 (M3.1 o1 0 5)) (fun M4 => lt_ (sw M4 o 0 6 (M4.1 o1 0 6)) (fun M5 => lt_ (sw M5 o 0 7 (M5.1 o1 0 7)) (fun M6 => some M6))))))
set_option maxHeartbeats 4000000 in
set_option maxRecDepth 100000 in
theorem ct_X7_copyFrom {g : GT} {l : Launch} {o : Nat} {o1 : Nat} {M : Mem} {t : Mem} (ho : o < 18) (ho1 : o1 < 18) (h : f_X7_copyFrom o o1 M = some t) : Ct g l 2 yX7_copyFrom cX7_copyFrom 2 (none) [.ref (ga g o 0), .ref (ga g o1 0)] M (none) t := by
  refine ct_of (k := 0) (by decide) (Nat.le_of_ble_eq_true rfl) rfl (fun X C hl hr hR => ?_)
  subst hl
  have C : Cx g X cX7_copyFrom RX7 2 2 := C
  unfold f_X7_copyFrom at h
  refine kj_ald1 (pc := 0) C dX7_copyFrom_0 ?_
  refine gf_X7_9 (pc := 1) C ho1 dX7_copyFrom_1 ?_
  refine kj_iconst (pc := 4) C (v := 0) dX7_copyFrom_4 ci_0 ?_
  refine kj_ald0 (pc := 5) C dX7_copyFrom_5 ?_
  refine gf_X7_9 (pc := 6) C ho dX7_copyFrom_6 ?_
  refine kj_iconst (pc := 9) C (v := 0) dX7_copyFrom_9 ci_0 ?_
  refine kj_bipush (pc := 10) C (v := 6) dX7_copyFrom_10 cb_6 ?_
  obtain ⟨M1, eM1, h⟩ := of_lt h
  refine kj_copy2 (pc := 12) C ml_X7_38 (ia_st ho1 ⟨by decide, by decide⟩) (ia_st ho ⟨by decide, by decide⟩) (Nat.le_of_ble_eq_true rfl) dX7_copyFrom_12 ?_
  refine kj_nM eM1 ?_
  refine kj_ald1 (pc := 15) C dX7_copyFrom_15 ?_
  refine gf_X7_15 (pc := 16) C ho1 dX7_copyFrom_16 ?_
  refine kj_iconst (pc := 19) C (v := 0) dX7_copyFrom_19 ci_0 ?_
  refine kj_ald0 (pc := 20) C dX7_copyFrom_20 ?_
  refine gf_X7_15 (pc := 21) C ho dX7_copyFrom_21 ?_
  refine kj_iconst (pc := 24) C (v := 0) dX7_copyFrom_24 ci_0 ?_
  refine kj_bipush (pc := 25) C (v := 6) dX7_copyFrom_25 cb_6 ?_
  obtain ⟨M2, eM2, h⟩ := of_lt h
  refine kj_copy2 (pc := 27) C ml_X7_38 (ia_st ho1 ⟨by decide, by decide⟩) (ia_st ho ⟨by decide, by decide⟩) (Nat.le_of_ble_eq_true rfl) dX7_copyFrom_27 ?_
  refine kj_nM eM2 ?_
  refine kj_ald1 (pc := 30) C dX7_copyFrom_30 ?_
  refine gf_X7_18 (pc := 31) C ho1 dX7_copyFrom_31 ?_
  refine kj_iconst (pc := 34) C (v := 0) dX7_copyFrom_34 ci_0 ?_
  refine kj_ald0 (pc := 35) C dX7_copyFrom_35 ?_
  refine gf_X7_18 (pc := 36) C ho dX7_copyFrom_36 ?_
  refine kj_iconst (pc := 39) C (v := 0) dX7_copyFrom_39 ci_0 ?_
  refine kj_bipush (pc := 40) C (v := 6) dX7_copyFrom_40 cb_6 ?_
  obtain ⟨M3, eM3, h⟩ := of_lt h
  refine kj_copy2 (pc := 42) C ml_X7_38 (ia_st ho1 ⟨by decide, by decide⟩) (ia_st ho ⟨by decide, by decide⟩) (Nat.le_of_ble_eq_true rfl) dX7_copyFrom_42 ?_
  refine kj_nM eM3 ?_
  refine kj_ald0 (pc := 45) C dX7_copyFrom_45 ?_
  refine kj_ald1 (pc := 46) C dX7_copyFrom_46 ?_
  refine gf_X7_24 (pc := 47) C ho1 dX7_copyFrom_47 ?_
  obtain ⟨M4, eM4, h⟩ := of_lt h
  refine pf_X7_24 (pc := 50) C ho dX7_copyFrom_50 ?_
  refine kj_nM eM4 ?_
  refine kj_ald0 (pc := 53) C dX7_copyFrom_53 ?_
  refine kj_ald1 (pc := 54) C dX7_copyFrom_54 ?_
  refine gf_X7_28 (pc := 55) C ho1 dX7_copyFrom_55 ?_
  obtain ⟨M5, eM5, h⟩ := of_lt h
  refine pf_X7_28 (pc := 58) C ho dX7_copyFrom_58 ?_
  refine kj_nM eM5 ?_
  refine kj_ald0 (pc := 61) C dX7_copyFrom_61 ?_
  refine kj_ald1 (pc := 62) C dX7_copyFrom_62 ?_
  refine gf_X7_31 (pc := 63) C ho1 dX7_copyFrom_63 ?_
  obtain ⟨M6, eM6, h⟩ := of_lt h
  refine pf_X7_31 (pc := 66) C ho dX7_copyFrom_66 ?_
  refine kj_nM eM6 ?_
  cases h
  exact kj_vret (pc := 69) C hr hR dX7_copyFrom_69
def f_X0_remember_35 (o1 : Nat) (s1 : Int32) (M : Mem) : Option (Mem) := lt_ (sw M 21 0 1 s1) (fun M1 => lt_ (if 14 < ((M1.1 21 0 2) + (1 : Int32)) then 14 else ((M1.1 21 0 2) + (1 : Int32))) (fun x2 => lt_ (sw M1 21 0 2 x2) (fun M3 => some M3)))
set_option maxHeartbeats 4000000 in
set_option maxRecDepth 100000 in
theorem k_X0_remember_35 {g : GT} {X : XT} {o1 : Nat} {t : Mem} (C : Cx g X cX0_remember RX0 2 3) (hr : (xt X).sig.returnType = none) (hR : Rt g X none t) (ho1 : o1 < 18) : ∀ (s1 : Int32) (M : Mem) (w1 : Option Value), f_X0_remember_35 o1 s1 M = some t → Kj g X 2 35 [some (.ref (ga g 21 0)), w1] [.int s1, .ref (ga g 21 0)] M := by
  intro s1 M w1 h
  unfold f_X0_remember_35 at h
  obtain ⟨M1, eM1, h⟩ := of_lt h
  refine pf_X0_17 (pc := 35) C dX0_remember_35 ?_
  refine kj_nM eM1 ?_
  refine kj_ald0 (pc := 38) C dX0_remember_38 ?_
  refine kj_ald0 (pc := 39) C dX0_remember_39 ?_
  refine gf_X0_21 (pc := 40) C dX0_remember_40 ?_
  refine kj_iconst (pc := 43) C (v := 1) dX0_remember_43 ci_1 ?_
  refine kj_iadd (pc := 44) C dX0_remember_44 ?_
  refine kj_bipush (pc := 45) C (v := 14) dX0_remember_45 cb_14 ?_
  obtain ⟨x2, ex2, h⟩ := of_lt h
  refine kj_mmin2 (pc := 47) C ml_X0_31 (Nat.le_of_ble_eq_true rfl) dX0_remember_47 ?_
  refine kj_ni ex2 ?_
  obtain ⟨M3, eM3, h⟩ := of_lt h
  refine pf_X0_21 (pc := 50) C dX0_remember_50 ?_
  refine kj_nM eM3 ?_
  cases h
  exact kj_vret (pc := 53) C hr hR dX0_remember_53
def f_X0_remember (o1 : Nat) (M : Mem) : Option (Mem) := lt_ (M.1 21 0 1) (fun x2 => if ¬ (x2 < 0 ∨ 14 ≤ x2.toNatClampNeg) then (f_X7_copyFrom (2 + x2.toNatClampNeg) o1 M).bind (fun q3 => if 14 ≤ ((q3.1 21 0 1) + (1 : Int32)) then f_X0_remember_35 o1 0 q3 else f_X0_remember_35 o1 ((q3.1 21 0 1) + (1 : Int32)) q3) else none)
set_option maxHeartbeats 4000000 in
set_option maxRecDepth 100000 in
theorem ct_X0_remember {g : GT} {l : Launch} {o1 : Nat} {M : Mem} {t : Mem} (ho1 : o1 < 18) (h : f_X0_remember o1 M = some t) : Ct g l 3 yX0_remember cX0_remember 2 (none) [.ref (ga g 21 0), .ref (ga g o1 0)] M (none) t := by
  refine ct_of (k := 0) (by decide) (Nat.le_of_ble_eq_true rfl) rfl (fun X C hl hr hR => ?_)
  subst hl
  have C : Cx g X cX0_remember RX0 2 3 := C
  unfold f_X0_remember at h
  refine kj_ald0 (pc := 0) C dX0_remember_0 ?_
  refine gf_X0_11 (pc := 1) C dX0_remember_1 ?_
  refine kj_ald0 (pc := 4) C dX0_remember_4 ?_
  refine gf_X0_17 (pc := 5) C dX0_remember_5 ?_
  obtain ⟨x2, ex2, h⟩ := of_lt h
  refine kj_ni ex2 ?_
  obtain ⟨c1, h⟩ := of_gd h
  refine kj_aald21 (pc := 8) C c1 dX0_remember_8 ?_
  refine kj_ald1 (pc := 9) C dX0_remember_9 ?_
  obtain ⟨q3, eq3, h⟩ := of_bind h
  refine kj_callVN0 (pc := 10) C (ct_X7_copyFrom (sd_14 c1) ho1 eq3) (Nat.le_of_ble_eq_true rfl) mi_X7_copyFrom ml_X0_27 (rc_st (sd_14 c1)) rfl rfl ar1 (Nat.le_of_ble_eq_true rfl) dX0_remember_10 ?_
  refine kj_ald0 (pc := 13) C dX0_remember_13 ?_
  refine kj_ald0 (pc := 14) C dX0_remember_14 ?_
  refine gf_X0_17 (pc := 15) C dX0_remember_15 ?_
  refine kj_iconst (pc := 18) C (v := 1) dX0_remember_18 ci_1 ?_
  refine kj_iadd (pc := 19) C dX0_remember_19 ?_
  refine kj_bipush (pc := 20) C (v := 14) dX0_remember_20 cb_14 ?_
  refine kj_icmp_ge (pc := 22) C dX0_remember_22 (tgt := 34) (by decide) (fun c4 => ?_) (fun c4 => ?_)
  · have h := of_pos c4 h
    refine kj_iconst (pc := 34) C (v := 0) dX0_remember_34 ci_0 ?_
    exact k_X0_remember_35 C hr hR ho1 _ _ _ h
  · have h := of_neg c4 h
    refine kj_ald0 (pc := 25) C dX0_remember_25 ?_
    refine gf_X0_17 (pc := 26) C dX0_remember_26 ?_
    refine kj_iconst (pc := 29) C (v := 1) dX0_remember_29 ci_1 ?_
    refine kj_iadd (pc := 30) C dX0_remember_30 ?_
    refine kj_goto (pc := 31) C dX0_remember_31 (tgt := 35) (by decide) ?_
    exact k_X0_remember_35 C hr hR ho1 _ _ _ h
def f_X0_giveBack_28 (o1 : Nat) (s1 : Int32) (M : Mem) : Option (Int32 × Mem) := lt_ (sw M 21 0 1 s1) (fun M1 => lt_ (sw M1 21 0 2 ((M1.1 21 0 2) - (1 : Int32))) (fun M2 => lt_ (M2.1 21 0 1) (fun x4 => if ¬ (x4 < 0 ∨ 14 ≤ x4.toNatClampNeg) then (f_X7_copyFrom o1 (2 + x4.toNatClampNeg) M2).bind (fun q5 => some ((1 : Int32), q5)) else none)))
set_option maxHeartbeats 4000000 in
set_option maxRecDepth 100000 in
theorem k_X0_giveBack_28 {g : GT} {X : XT} {o1 : Nat} {t : Int32 × Mem} (C : Cx g X cX0_giveBack RX0 2 3) (hr : (xt X).sig.returnType = some .boolean) (hR : Rt g X (some (.int t.1)) t.2) (ho1 : o1 < 18) : ∀ (s1 : Int32) (M : Mem), f_X0_giveBack_28 o1 s1 M = some t → Kj g X 2 28 [some (.ref (ga g 21 0)), some (.ref (ga g o1 0))] [.int s1, .ref (ga g 21 0)] M := by
  intro s1 M h
  unfold f_X0_giveBack_28 at h
  obtain ⟨M1, eM1, h⟩ := of_lt h
  refine pf_X0_17 (pc := 28) C dX0_giveBack_28 ?_
  refine kj_nM eM1 ?_
  refine kj_ald0 (pc := 31) C dX0_giveBack_31 ?_
  refine kj_dup (pc := 32) C dX0_giveBack_32 rfl ?_
  refine gf_X0_21 (pc := 33) C dX0_giveBack_33 ?_
  refine kj_iconst (pc := 36) C (v := 1) dX0_giveBack_36 ci_1 ?_
  refine kj_isub (pc := 37) C dX0_giveBack_37 ?_
  obtain ⟨M2, eM2, h⟩ := of_lt h
  refine pf_X0_21 (pc := 38) C dX0_giveBack_38 ?_
  refine kj_nM eM2 ?_
  refine kj_ald1 (pc := 41) C dX0_giveBack_41 ?_
  refine kj_ald0 (pc := 42) C dX0_giveBack_42 ?_
  refine gf_X0_11 (pc := 43) C dX0_giveBack_43 ?_
  refine kj_ald0 (pc := 46) C dX0_giveBack_46 ?_
  refine gf_X0_17 (pc := 47) C dX0_giveBack_47 ?_
  obtain ⟨x4, ex4, h⟩ := of_lt h
  refine kj_ni ex4 ?_
  obtain ⟨c3, h⟩ := of_gd h
  refine kj_aald21 (pc := 50) C c3 dX0_giveBack_50 ?_
  obtain ⟨q5, eq5, h⟩ := of_bind h
  refine kj_callVN0 (pc := 51) C (ct_X7_copyFrom ho1 (sd_14 c3) eq5) (Nat.le_of_ble_eq_true rfl) mi_X7_copyFrom ml_X0_27 (rc_st ho1) rfl rfl ar1 (Nat.le_of_ble_eq_true rfl) dX0_giveBack_51 ?_
  refine kj_iconst (pc := 54) C (v := 1) dX0_giveBack_54 ci_1 ?_
  cases h
  exact kj_zret (pc := 55) C hr (by decide) hR dX0_giveBack_55
def f_X0_giveBack (o1 : Nat) (M : Mem) : Option (Int32 × Mem) := if (M.1 21 0 2) = 0 then some ((0 : Int32), M) else if (M.1 21 0 1) ≤ 0 then f_X0_giveBack_28 o1 13 M else f_X0_giveBack_28 o1 ((M.1 21 0 1) - (1 : Int32)) M
set_option maxHeartbeats 4000000 in
set_option maxRecDepth 100000 in
theorem ct_X0_giveBack {g : GT} {l : Launch} {o1 : Nat} {M : Mem} {t : Int32 × Mem} (ho1 : o1 < 18) (h : f_X0_giveBack o1 M = some t) : Ct g l 3 yX0_giveBack cX0_giveBack 2 (some .boolean) [.ref (ga g 21 0), .ref (ga g o1 0)] M (some (.int t.1)) t.2 := by
  refine ct_of (k := 0) (by decide) (Nat.le_of_ble_eq_true rfl) rfl (fun X C hl hr hR => ?_)
  subst hl
  have C : Cx g X cX0_giveBack RX0 2 3 := C
  unfold f_X0_giveBack at h
  refine kj_ald0 (pc := 0) C dX0_giveBack_0 ?_
  refine gf_X0_21 (pc := 1) C dX0_giveBack_1 ?_
  refine kj_if_ne (pc := 4) C dX0_giveBack_4 (tgt := 9) (by decide) (fun c1 => ?_) (fun c1 => ?_)
  · have h := of_neg c1 h
    refine kj_ald0 (pc := 9) C dX0_giveBack_9 ?_
    refine kj_ald0 (pc := 10) C dX0_giveBack_10 ?_
    refine gf_X0_17 (pc := 11) C dX0_giveBack_11 ?_
    refine kj_if_le (pc := 14) C dX0_giveBack_14 (tgt := 26) (by decide) (fun c2 => ?_) (fun c2 => ?_)
    · have h := of_pos c2 h
      refine kj_bipush (pc := 26) C (v := 13) dX0_giveBack_26 cb_13 ?_
      exact k_X0_giveBack_28 C hr hR ho1 _ _ h
    · have h := of_neg c2 h
      refine kj_ald0 (pc := 17) C dX0_giveBack_17 ?_
      refine gf_X0_17 (pc := 18) C dX0_giveBack_18 ?_
      refine kj_iconst (pc := 21) C (v := 1) dX0_giveBack_21 ci_1 ?_
      refine kj_isub (pc := 22) C dX0_giveBack_22 ?_
      refine kj_goto (pc := 23) C dX0_giveBack_23 (tgt := 28) (by decide) ?_
      exact k_X0_giveBack_28 C hr hR ho1 _ _ h
  · have h := of_pos c1 h
    refine kj_iconst (pc := 7) C (v := 0) dX0_giveBack_7 ci_0 ?_
    cases h
    exact kj_zret (pc := 8) C hr (by decide) hR dX0_giveBack_8
def f_X7_isThere_27 (o : Nat) (M : Mem) (s0 : Int32) : Option (Int32) := if s0 = 0 ∨ s0 = 1 then some s0 else none
set_option maxHeartbeats 4000000 in
set_option maxRecDepth 100000 in
theorem k_X7_isThere_27 {g : GT} {X : XT} {o : Nat} {M : Mem} {t : Int32} (C : Cx g X cX7_isThere RX7 2 0) (hr : (xt X).sig.returnType = some .boolean) (hR : Rt g X (some (.int t)) M) (ho : o < 18) : ∀ (s0 : Int32) (w0 w1 : Option Value), f_X7_isThere_27 o M s0 = some t → Kj g X 2 27 [w0, w1] [.int s0] M := by
  intro s0 w0 w1 h
  unfold f_X7_isThere_27 at h
  obtain ⟨c1, h⟩ := of_gd h
  cases h
  exact kj_zret (pc := 27) C hr c1 hR dX7_isThere_27
def f_X7_isThere_26 (o : Nat) (M : Mem) : Option (Int32) := f_X7_isThere_27 o M 0
set_option maxHeartbeats 4000000 in
set_option maxRecDepth 100000 in
theorem k_X7_isThere_26 {g : GT} {X : XT} {o : Nat} {M : Mem} {t : Int32} (C : Cx g X cX7_isThere RX7 2 0) (hr : (xt X).sig.returnType = some .boolean) (hR : Rt g X (some (.int t)) M) (ho : o < 18) : ∀ (w0 w1 : Option Value), f_X7_isThere_26 o M = some t → Kj g X 2 26 [w0, w1] [] M := by
  intro w0 w1 h
  unfold f_X7_isThere_26 at h
  refine kj_iconst (pc := 26) C (v := 0) dX7_isThere_26 ci_0 ?_
  exact k_X7_isThere_27 C hr hR ho _ _ _ h
def f_X7_isThere (o : Nat) (v1 : Int32) (M : Mem) : Option (Int32) := if v1 < 0 then f_X7_isThere_26 o M else if 6 ≤ v1 then f_X7_isThere_26 o M else if (((M.1 o 0 5) >>> (v1 &&& 31)) &&& (1 : Int32)) = 1 then f_X7_isThere_27 o M 1 else f_X7_isThere_26 o M
set_option maxHeartbeats 4000000 in
set_option maxRecDepth 100000 in
theorem ct_X7_isThere {g : GT} {l : Launch} {o : Nat} {v1 : Int32} {M : Mem} {t : Int32} (ho : o < 18) (h : f_X7_isThere o v1 M = some t) : Ct g l 0 yX7_isThere cX7_isThere 2 (some .boolean) [.ref (ga g o 0), .int v1] M (some (.int t)) M := by
  refine ct_of (k := 0) (by decide) (Nat.le_of_ble_eq_true rfl) rfl (fun X C hl hr hR => ?_)
  subst hl
  have C : Cx g X cX7_isThere RX7 2 0 := C
  unfold f_X7_isThere at h
  refine kj_ild1 (pc := 0) C dX7_isThere_0 ?_
  refine kj_if_lt (pc := 1) C dX7_isThere_1 (tgt := 26) (by decide) (fun c1 => ?_) (fun c1 => ?_)
  · have h := of_pos c1 h
    exact k_X7_isThere_26 C hr hR ho  _ _ h
  · have h := of_neg c1 h
    refine kj_ild1 (pc := 4) C dX7_isThere_4 ?_
    refine kj_bipush (pc := 5) C (v := 6) dX7_isThere_5 cb_6 ?_
    refine kj_icmp_ge (pc := 7) C dX7_isThere_7 (tgt := 26) (by decide) (fun c2 => ?_) (fun c2 => ?_)
    · have h := of_pos c2 h
      exact k_X7_isThere_26 C hr hR ho  _ _ h
    · have h := of_neg c2 h
      refine kj_ald0 (pc := 10) C dX7_isThere_10 ?_
      refine gf_X7_24 (pc := 11) C ho dX7_isThere_11 ?_
      refine kj_ild1 (pc := 14) C dX7_isThere_14 ?_
      refine kj_ishr (pc := 15) C dX7_isThere_15 ?_
      refine kj_iconst (pc := 16) C (v := 1) dX7_isThere_16 ci_1 ?_
      refine kj_iand (pc := 17) C dX7_isThere_17 ?_
      refine kj_iconst (pc := 18) C (v := 1) dX7_isThere_18 ci_1 ?_
      refine kj_icmp_ne (pc := 19) C dX7_isThere_19 (tgt := 26) (by decide) (fun c3 => ?_) (fun c3 => ?_)
      · have h := of_neg c3 h
        exact k_X7_isThere_26 C hr hR ho  _ _ h
      · have h := of_pos c3 h
        refine kj_iconst (pc := 22) C (v := 1) dX7_isThere_22 ci_1 ?_
        refine kj_goto (pc := 23) C dX7_isThere_23 (tgt := 27) (by decide) ?_
        exact k_X7_isThere_27 C hr hR ho _ _ _ h
def f_X7_isHeld_30 (o : Nat) (M : Mem) (s0 : Int32) : Option (Int32) := if s0 = 0 ∨ s0 = 1 then some s0 else none
set_option maxHeartbeats 4000000 in
set_option maxRecDepth 100000 in
theorem k_X7_isHeld_30 {g : GT} {X : XT} {o : Nat} {M : Mem} {t : Int32} (C : Cx g X cX7_isHeld RX7 2 0) (hr : (xt X).sig.returnType = some .boolean) (hR : Rt g X (some (.int t)) M) (ho : o < 18) : ∀ (s0 : Int32) (w0 w1 : Option Value), f_X7_isHeld_30 o M s0 = some t → Kj g X 2 30 [w0, w1] [.int s0] M := by
  intro s0 w0 w1 h
  unfold f_X7_isHeld_30 at h
  obtain ⟨c1, h⟩ := of_gd h
  cases h
  exact kj_zret (pc := 30) C hr c1 hR dX7_isHeld_30
def f_X7_isHeld_25 (o : Nat) (M : Mem) : Option (Int32) := f_X7_isHeld_30 o M 1
set_option maxHeartbeats 4000000 in
set_option maxRecDepth 100000 in
theorem k_X7_isHeld_25 {g : GT} {X : XT} {o : Nat} {M : Mem} {t : Int32} (C : Cx g X cX7_isHeld RX7 2 0) (hr : (xt X).sig.returnType = some .boolean) (hR : Rt g X (some (.int t)) M) (ho : o < 18) : ∀ (w0 w1 : Option Value), f_X7_isHeld_25 o M = some t → Kj g X 2 25 [w0, w1] [] M := by
  intro w0 w1 h
  unfold f_X7_isHeld_25 at h
  refine kj_iconst (pc := 25) C (v := 1) dX7_isHeld_25 ci_1 ?_
  refine kj_goto (pc := 26) C dX7_isHeld_26 (tgt := 30) (by decide) ?_
  exact k_X7_isHeld_30 C hr hR ho _ _ _ h
def f_X7_isHeld (o : Nat) (v1 : Int32) (M : Mem) : Option (Int32) := if ¬ (v1 < 0 ∨ 6 ≤ v1.toNatClampNeg) then if (M.1 19 3 v1.toNatClampNeg) = 1 then f_X7_isHeld_25 o M else if (((M.1 o 0 6) >>> (v1 &&& 31)) &&& (1 : Int32)) = 1 then f_X7_isHeld_25 o M else f_X7_isHeld_30 o M 0 else none
set_option maxHeartbeats 4000000 in
set_option maxRecDepth 100000 in
theorem ct_X7_isHeld {g : GT} {l : Launch} {o : Nat} {v1 : Int32} {M : Mem} {t : Int32} (ho : o < 18) (h : f_X7_isHeld o v1 M = some t) : Ct g l 0 yX7_isHeld cX7_isHeld 2 (some .boolean) [.ref (ga g o 0), .int v1] M (some (.int t)) M := by
  refine ct_of (k := 0) (by decide) (Nat.le_of_ble_eq_true rfl) rfl (fun X C hl hr hR => ?_)
  subst hl
  have C : Cx g X cX7_isHeld RX7 2 0 := C
  unfold f_X7_isHeld at h
  refine kj_ald0 (pc := 0) C dX7_isHeld_0 ?_
  refine gf_X7_34 (pc := 1) C ho dX7_isHeld_1 ?_
  refine gf_X7_44 (pc := 4) C dX7_isHeld_4 ?_
  refine kj_ild1 (pc := 7) C dX7_isHeld_7 ?_
  obtain ⟨c1, h⟩ := of_gd h
  refine kj_iald2 (pc := 8) C ia_19_3 c1 dX7_isHeld_8 ?_
  refine kj_iconst (pc := 9) C (v := 1) dX7_isHeld_9 ci_1 ?_
  refine kj_icmp_eq (pc := 10) C dX7_isHeld_10 (tgt := 25) (by decide) (fun c2 => ?_) (fun c2 => ?_)
  · have h := of_pos c2 h
    exact k_X7_isHeld_25 C hr hR ho  _ _ h
  · have h := of_neg c2 h
    refine kj_ald0 (pc := 13) C dX7_isHeld_13 ?_
    refine gf_X7_28 (pc := 14) C ho dX7_isHeld_14 ?_
    refine kj_ild1 (pc := 17) C dX7_isHeld_17 ?_
    refine kj_ishr (pc := 18) C dX7_isHeld_18 ?_
    refine kj_iconst (pc := 19) C (v := 1) dX7_isHeld_19 ci_1 ?_
    refine kj_iand (pc := 20) C dX7_isHeld_20 ?_
    refine kj_iconst (pc := 21) C (v := 1) dX7_isHeld_21 ci_1 ?_
    refine kj_icmp_ne (pc := 22) C dX7_isHeld_22 (tgt := 29) (by decide) (fun c3 => ?_) (fun c3 => ?_)
    · have h := of_neg c3 h
      refine kj_iconst (pc := 29) C (v := 0) dX7_isHeld_29 ci_0 ?_
      exact k_X7_isHeld_30 C hr hR ho _ _ _ h
    · have h := of_pos c3 h
      exact k_X7_isHeld_25 C hr hR ho  _ _ h
def f_X7_isSeen_47 (o : Nat) (M : Mem) (s0 : Int32) : Option (Int32) := if s0 = 0 ∨ s0 = 1 then some s0 else none
set_option maxHeartbeats 4000000 in
set_option maxRecDepth 100000 in
theorem k_X7_isSeen_47 {g : GT} {X : XT} {o : Nat} {M : Mem} {t : Int32} (C : Cx g X cX7_isSeen RX7 4 0) (hr : (xt X).sig.returnType = some .boolean) (hR : Rt g X (some (.int t)) M) (ho : o < 18) : ∀ (s0 : Int32) (w0 w1 w2 w3 : Option Value), f_X7_isSeen_47 o M s0 = some t → Kj g X 4 47 [w0, w1, w2, w3] [.int s0] M := by
  intro s0 w0 w1 w2 w3 h
  unfold f_X7_isSeen_47 at h
  obtain ⟨c1, h⟩ := of_gd h
  cases h
  exact kj_zret (pc := 47) C hr c1 hR dX7_isSeen_47
def f_X7_isSeen_46 (o : Nat) (M : Mem) : Option (Int32) := f_X7_isSeen_47 o M 0
set_option maxHeartbeats 4000000 in
set_option maxRecDepth 100000 in
theorem k_X7_isSeen_46 {g : GT} {X : XT} {o : Nat} {M : Mem} {t : Int32} (C : Cx g X cX7_isSeen RX7 4 0) (hr : (xt X).sig.returnType = some .boolean) (hR : Rt g X (some (.int t)) M) (ho : o < 18) : ∀ (w0 w1 w2 w3 : Option Value), f_X7_isSeen_46 o M = some t → Kj g X 4 46 [w0, w1, w2, w3] [] M := by
  intro w0 w1 w2 w3 h
  unfold f_X7_isSeen_46 at h
  refine kj_iconst (pc := 46) C (v := 0) dX7_isSeen_46 ci_0 ?_
  exact k_X7_isSeen_47 C hr hR ho _ _ _ _ _ h
def f_X7_isSeen (o : Nat) (v1 : Int32) (v2 : Int32) (M : Mem) : Option (Int32) := if ¬ (v1 < 0 ∨ 6 ≤ v1.toNatClampNeg) then if ¬ (v2 < 0 ∨ 6 ≤ v2.toNatClampNeg) then lt_ ((M.1 o 1 v1.toNatClampNeg) - (M.1 o 1 v2.toNatClampNeg)) (fun x3 => if v1 = v2 then f_X7_isSeen_46 o M else if (((M.1 o 0 5) >>> (v2 &&& 31)) &&& (1 : Int32)) = 1 then if 3 < x3 then f_X7_isSeen_46 o M else if x3 < (-3) then f_X7_isSeen_46 o M else f_X7_isSeen_47 o M 1 else f_X7_isSeen_46 o M) else none else none
set_option maxHeartbeats 4000000 in
set_option maxRecDepth 100000 in
theorem ct_X7_isSeen {g : GT} {l : Launch} {o : Nat} {v1 : Int32} {v2 : Int32} {M : Mem} {t : Int32} (ho : o < 18) (h : f_X7_isSeen o v1 v2 M = some t) : Ct g l 0 yX7_isSeen cX7_isSeen 4 (some .boolean) [.ref (ga g o 0), .int v1, .int v2] M (some (.int t)) M := by
  refine ct_of (k := 1) (by decide) (Nat.le_of_ble_eq_true rfl) rfl (fun X C hl hr hR => ?_)
  subst hl
  have C : Cx g X cX7_isSeen RX7 4 0 := C
  unfold f_X7_isSeen at h
  refine kj_ald0 (pc := 0) C dX7_isSeen_0 ?_
  refine gf_X7_9 (pc := 1) C ho dX7_isSeen_1 ?_
  refine kj_ild1 (pc := 4) C dX7_isSeen_4 ?_
  obtain ⟨c1, h⟩ := of_gd h
  refine kj_iald2 (pc := 5) C (ia_st ho ⟨by decide, by decide⟩) c1 dX7_isSeen_5 ?_
  refine kj_ald0 (pc := 6) C dX7_isSeen_6 ?_
  refine gf_X7_9 (pc := 7) C ho dX7_isSeen_7 ?_
  refine kj_ild2 (pc := 10) C dX7_isSeen_10 ?_
  obtain ⟨c2, h⟩ := of_gd h
  refine kj_iald2 (pc := 11) C (ia_st ho ⟨by decide, by decide⟩) c2 dX7_isSeen_11 ?_
  refine kj_isub (pc := 12) C dX7_isSeen_12 ?_
  obtain ⟨x3, ex3, h⟩ := of_lt h
  refine kj_ni ex3 ?_
  refine kj_ist3 (pc := 13) C dX7_isSeen_13 (Nat.le_of_ble_eq_true rfl) rfl ?_
  refine kj_ild1 (pc := 14) C dX7_isSeen_14 ?_
  refine kj_ild2 (pc := 15) C dX7_isSeen_15 ?_
  refine kj_icmp_eq (pc := 16) C dX7_isSeen_16 (tgt := 46) (by decide) (fun c4 => ?_) (fun c4 => ?_)
  · have h := of_pos c4 h
    exact k_X7_isSeen_46 C hr hR ho  _ _ _ _ h
  · have h := of_neg c4 h
    refine kj_ald0 (pc := 19) C dX7_isSeen_19 ?_
    refine gf_X7_24 (pc := 20) C ho dX7_isSeen_20 ?_
    refine kj_ild2 (pc := 23) C dX7_isSeen_23 ?_
    refine kj_ishr (pc := 24) C dX7_isSeen_24 ?_
    refine kj_iconst (pc := 25) C (v := 1) dX7_isSeen_25 ci_1 ?_
    refine kj_iand (pc := 26) C dX7_isSeen_26 ?_
    refine kj_iconst (pc := 27) C (v := 1) dX7_isSeen_27 ci_1 ?_
    refine kj_icmp_ne (pc := 28) C dX7_isSeen_28 (tgt := 46) (by decide) (fun c5 => ?_) (fun c5 => ?_)
    · have h := of_neg c5 h
      exact k_X7_isSeen_46 C hr hR ho  _ _ _ _ h
    · have h := of_pos c5 h
      refine kj_ild3 (pc := 31) C dX7_isSeen_31 ?_
      refine kj_iconst (pc := 32) C (v := 3) dX7_isSeen_32 ci_3 ?_
      refine kj_icmp_gt (pc := 33) C dX7_isSeen_33 (tgt := 46) (by decide) (fun c6 => ?_) (fun c6 => ?_)
      · have h := of_pos c6 h
        exact k_X7_isSeen_46 C hr hR ho  _ _ _ _ h
      · have h := of_neg c6 h
        refine kj_ild3 (pc := 36) C dX7_isSeen_36 ?_
        refine kj_bipush (pc := 37) C (v := (-3)) dX7_isSeen_37 cb_m3 ?_
        refine kj_icmp_lt (pc := 39) C dX7_isSeen_39 (tgt := 46) (by decide) (fun c7 => ?_) (fun c7 => ?_)
        · have h := of_pos c7 h
          exact k_X7_isSeen_46 C hr hR ho  _ _ _ _ h
        · have h := of_neg c7 h
          refine kj_iconst (pc := 42) C (v := 1) dX7_isSeen_42 ci_1 ?_
          refine kj_goto (pc := 43) C dX7_isSeen_43 (tgt := 47) (by decide) ?_
          exact k_X7_isSeen_47 C hr hR ho _ _ _ _ _ h
def f_X7_enviedBy_94 (o : Nat) (M : Mem) (k58 : Int32 → Nat → Int32 → Int32 → Int32 → Option (Int32)) (v1 : Int32) (r3 : Nat) (v4 : Int32) (v5 : Int32) (v6 : Int32) : Option (Int32) := lt_ (v6 + 1) (fun x1 => k58 v1 r3 v4 v5 x1)
set_option maxHeartbeats 4000000 in
set_option maxRecDepth 100000 in
theorem k_X7_enviedBy_94 {g : GT} {X : XT} {o : Nat} {M : Mem} {k58 : Int32 → Nat → Int32 → Int32 → Int32 → Option (Int32)} {t : Int32} (C : Cx g X cX7_enviedBy RX7 7 1) (hr : (xt X).sig.returnType = some .int) (hR : Rt g X (some (.int t)) M) (ho : o < 18) (hk58 : ∀ (v1 : Int32) (r3 : Nat) (v4 : Int32) (v5 : Int32) (v6 : Int32) (w2 : Option Value) (hr3 : 0 < r3 ∧ r3 < 5), k58 v1 r3 v4 v5 v6 = some t → Kj g X 7 58 [some (.ref (ga g o 0)), some (.int v1), w2, some (.ref (ga g o r3)), some (.int v4), some (.int v5), some (.int v6)] [] M) : ∀ (v1 : Int32) (r3 : Nat) (v4 : Int32) (v5 : Int32) (v6 : Int32) (w2 : Option Value) (hr3 : 0 < r3 ∧ r3 < 5), f_X7_enviedBy_94 o M k58 v1 r3 v4 v5 v6 = some t → Kj g X 7 94 [some (.ref (ga g o 0)), some (.int v1), w2, some (.ref (ga g o r3)), some (.int v4), some (.int v5), some (.int v6)] [] M := by
  intro v1 r3 v4 v5 v6 w2 hr3 h
  unfold f_X7_enviedBy_94 at h
  obtain ⟨x1, ex1, h⟩ := of_lt h
  refine kj_iinc6 (pc := 94) C (v := x1) dX7_enviedBy_94 (Nat.le_of_ble_eq_true rfl) rfl (by rw [ex1, ci_1]) ?_
  refine kj_goto (pc := 97) C dX7_enviedBy_97 (tgt := 58) (by decide) ?_
  exact hk58 _ _ _ _ _ _ hr3 h
def f_X7_enviedBy_58 (o : Nat) (M : Mem) (n : Nat) (v1 : Int32) (r3 : Nat) (v4 : Int32) (v5 : Int32) (v6 : Int32) : Option (Int32) := match n with
  | 0 => none
  | n + 1 => if 6 ≤ v6 then some v5 else if ¬ (v6 < 0 ∨ 6 ≤ v6.toNatClampNeg) then if (M.1 o r3 v6.toNatClampNeg) ≤ v4 then f_X7_enviedBy_94 o M (f_X7_enviedBy_58 o M n) v1 r3 v4 v5 v6 else (f_X7_isSeen o v1 v6 M).bind (fun q4 => if q4 = 0 then f_X7_enviedBy_94 o M (f_X7_enviedBy_58 o M n) v1 r3 v4 v5 v6 else if ¬ (v6 < 0 ∨ 6 ≤ v6.toNatClampNeg) then lt_ (M.1 o r3 v6.toNatClampNeg) (fun x7 => f_X7_enviedBy_94 o M (f_X7_enviedBy_58 o M n) v1 r3 x7 v6 v6) else none) else none
set_option maxHeartbeats 4000000 in
set_option maxRecDepth 100000 in
theorem k_X7_enviedBy_58 {g : GT} {X : XT} {o : Nat} {M : Mem} {t : Int32} (C : Cx g X cX7_enviedBy RX7 7 1) (hr : (xt X).sig.returnType = some .int) (hR : Rt g X (some (.int t)) M) (ho : o < 18) (n : Nat) : ∀ (v1 : Int32) (r3 : Nat) (v4 : Int32) (v5 : Int32) (v6 : Int32) (w2 : Option Value) (hr3 : 0 < r3 ∧ r3 < 5), f_X7_enviedBy_58 o M n v1 r3 v4 v5 v6 = some t → Kj g X 7 58 [some (.ref (ga g o 0)), some (.int v1), w2, some (.ref (ga g o r3)), some (.int v4), some (.int v5), some (.int v6)] [] M := by
  induction n with
  | zero => intro v1 r3 v4 v5 v6 w2 hr3 h; rw [f_X7_enviedBy_58] at h; cases h
  | succ n ih =>
    intro v1 r3 v4 v5 v6 w2 hr3 h
    rw [f_X7_enviedBy_58] at h
    refine kj_ild6 (pc := 58) C dX7_enviedBy_58 ?_
    refine kj_bipush (pc := 60) C (v := 6) dX7_enviedBy_60 cb_6 ?_
    refine kj_icmp_ge (pc := 62) C dX7_enviedBy_62 (tgt := 100) (by decide) (fun c1 => ?_) (fun c1 => ?_)
    · have h := of_pos c1 h
      refine kj_ild5 (pc := 100) C dX7_enviedBy_100 ?_
      cases h
      exact kj_iret (pc := 102) C hr hR dX7_enviedBy_102
    · have h := of_neg c1 h
      refine kj_ald3 (pc := 65) C dX7_enviedBy_65 ?_
      refine kj_ild6 (pc := 66) C dX7_enviedBy_66 ?_
      obtain ⟨c2, h⟩ := of_gd h
      refine kj_iald2 (pc := 68) C (ia_st ho hr3) c2 dX7_enviedBy_68 ?_
      refine kj_ild4 (pc := 69) C dX7_enviedBy_69 ?_
      refine kj_icmp_le (pc := 71) C dX7_enviedBy_71 (tgt := 94) (by decide) (fun c3 => ?_) (fun c3 => ?_)
      · have h := of_pos c3 h
        exact k_X7_enviedBy_94 C hr hR ho ih _ _ _ _ _ _ hr3 h
      · have h := of_neg c3 h
        refine kj_ald0 (pc := 74) C dX7_enviedBy_74 ?_
        refine kj_ild1 (pc := 75) C dX7_enviedBy_75 ?_
        refine kj_ild6 (pc := 76) C dX7_enviedBy_76 ?_
        obtain ⟨q4, eq4, h⟩ := of_bind h
        refine kj_callV1 (pc := 78) C (ct_X7_isSeen ho eq4) (Nat.le_of_ble_eq_true rfl) mi_X7_isSeen ml_X7_49 (rc_st ho) rfl rfl ar2 (Nat.le_of_ble_eq_true rfl) dX7_enviedBy_78 ?_
        refine kj_if_eq (pc := 81) C dX7_enviedBy_81 (tgt := 94) (by decide) (fun c5 => ?_) (fun c5 => ?_)
        · have h := of_pos c5 h
          exact k_X7_enviedBy_94 C hr hR ho ih _ _ _ _ _ _ hr3 h
        · have h := of_neg c5 h
          refine kj_ald3 (pc := 84) C dX7_enviedBy_84 ?_
          refine kj_ild6 (pc := 85) C dX7_enviedBy_85 ?_
          obtain ⟨c6, h⟩ := of_gd h
          refine kj_iald2 (pc := 87) C (ia_st ho hr3) c6 dX7_enviedBy_87 ?_
          obtain ⟨x7, ex7, h⟩ := of_lt h
          refine kj_ni ex7 ?_
          refine kj_ist4 (pc := 88) C dX7_enviedBy_88 (Nat.le_of_ble_eq_true rfl) rfl ?_
          refine kj_ild6 (pc := 90) C dX7_enviedBy_90 ?_
          refine kj_ist5 (pc := 92) C dX7_enviedBy_92 (Nat.le_of_ble_eq_true rfl) rfl ?_
          exact k_X7_enviedBy_94 C hr hR ho ih _ _ _ _ _ _ hr3 h
def f_X7_enviedBy_45 (o : Nat) (M : Mem) (v1 : Int32) (t0 : Nat) : Option (Int32) := if ¬ (v1 < 0 ∨ 6 ≤ v1.toNatClampNeg) then lt_ (M.1 o t0 v1.toNatClampNeg) (fun x2 => f_X7_enviedBy_58 o M 100 v1 t0 x2 (-9) 0) else none
set_option maxHeartbeats 4000000 in
set_option maxRecDepth 100000 in
theorem k_X7_enviedBy_45 {g : GT} {X : XT} {o : Nat} {M : Mem} {t : Int32} (C : Cx g X cX7_enviedBy RX7 7 1) (hr : (xt X).sig.returnType = some .int) (hR : Rt g X (some (.int t)) M) (ho : o < 18) : ∀ (v1 : Int32) (t0 : Nat) (w2 w3 w4 w5 w6 : Option Value) (ht0 : 0 < t0 ∧ t0 < 5), f_X7_enviedBy_45 o M v1 t0 = some t → Kj g X 7 45 [some (.ref (ga g o 0)), some (.int v1), w2, w3, w4, w5, w6] [.ref (ga g o t0)] M := by
  intro v1 t0 w2 w3 w4 w5 w6 ht0 h
  unfold f_X7_enviedBy_45 at h
  refine kj_ast3w (pc := 45) C dX7_enviedBy_45 (Nat.le_of_ble_eq_true rfl) ?_
  refine kj_ald3 (pc := 46) C dX7_enviedBy_46 ?_
  refine kj_ild1 (pc := 47) C dX7_enviedBy_47 ?_
  obtain ⟨c1, h⟩ := of_gd h
  refine kj_iald2 (pc := 48) C (ia_st ho ht0) c1 dX7_enviedBy_48 ?_
  obtain ⟨x2, ex2, h⟩ := of_lt h
  refine kj_ni ex2 ?_
  refine kj_ist4 (pc := 49) C dX7_enviedBy_49 (Nat.le_of_ble_eq_true rfl) rfl ?_
  refine kj_bipush (pc := 51) C (v := (-9)) dX7_enviedBy_51 cb_m9 ?_
  refine kj_ist5 (pc := 53) C dX7_enviedBy_53 (Nat.le_of_ble_eq_true rfl) rfl ?_
  refine kj_iconst (pc := 55) C (v := 0) dX7_enviedBy_55 ci_0 ?_
  refine kj_ist6 (pc := 56) C dX7_enviedBy_56 (Nat.le_of_ble_eq_true rfl) rfl ?_
  exact k_X7_enviedBy_58 C hr hR ho 100 _ _ _ _ _ _ ht0 h
def f_X7_enviedBy_30 (o : Nat) (M : Mem) (v1 : Int32) (v2 : Int32) : Option (Int32) := if v2 = 0 then f_X7_enviedBy_45 o M v1 2 else f_X7_enviedBy_45 o M v1 3
set_option maxHeartbeats 4000000 in
set_option maxRecDepth 100000 in
theorem k_X7_enviedBy_30 {g : GT} {X : XT} {o : Nat} {M : Mem} {t : Int32} (C : Cx g X cX7_enviedBy RX7 7 1) (hr : (xt X).sig.returnType = some .int) (hR : Rt g X (some (.int t)) M) (ho : o < 18) : ∀ (v1 : Int32) (v2 : Int32) (w3 w4 w5 w6 : Option Value), f_X7_enviedBy_30 o M v1 v2 = some t → Kj g X 7 30 [some (.ref (ga g o 0)), some (.int v1), some (.int v2), w3, w4, w5, w6] [] M := by
  intro v1 v2 w3 w4 w5 w6 h
  unfold f_X7_enviedBy_30 at h
  refine kj_ild2 (pc := 30) C dX7_enviedBy_30 ?_
  refine kj_if_ne (pc := 31) C dX7_enviedBy_31 (tgt := 41) (by decide) (fun c1 => ?_) (fun c1 => ?_)
  · have h := of_neg c1 h
    refine kj_ald0 (pc := 41) C dX7_enviedBy_41 ?_
    refine gf_X7_18 (pc := 42) C ho dX7_enviedBy_42 ?_
    exact k_X7_enviedBy_45 C hr hR ho _ _ _ _ _ _ _ ⟨by decide, by decide⟩ h
  · have h := of_pos c1 h
    refine kj_ald0 (pc := 34) C dX7_enviedBy_34 ?_
    refine gf_X7_15 (pc := 35) C ho dX7_enviedBy_35 ?_
    refine kj_goto (pc := 38) C dX7_enviedBy_38 (tgt := 45) (by decide) ?_
    exact k_X7_enviedBy_45 C hr hR ho _ _ _ _ _ _ _ ⟨by decide, by decide⟩ h
def f_X7_enviedBy_27 (o : Nat) (M : Mem) : Option (Int32) := some ((-9) : Int32)
set_option maxHeartbeats 4000000 in
set_option maxRecDepth 100000 in
theorem k_X7_enviedBy_27 {g : GT} {X : XT} {o : Nat} {M : Mem} {t : Int32} (C : Cx g X cX7_enviedBy RX7 7 1) (hr : (xt X).sig.returnType = some .int) (hR : Rt g X (some (.int t)) M) (ho : o < 18) : ∀ (w0 w1 w2 w3 w4 w5 w6 : Option Value), f_X7_enviedBy_27 o M = some t → Kj g X 7 27 [w0, w1, w2, w3, w4, w5, w6] [] M := by
  intro w0 w1 w2 w3 w4 w5 w6 h
  unfold f_X7_enviedBy_27 at h
  refine kj_bipush (pc := 27) C (v := (-9)) dX7_enviedBy_27 cb_m9 ?_
  cases h
  exact kj_iret (pc := 29) C hr hR dX7_enviedBy_29
def f_X7_enviedBy (o : Nat) (v1 : Int32) (M : Mem) : Option (Int32) := if ¬ (v1 < 0 ∨ 6 ≤ v1.toNatClampNeg) then lt_ (M.1 19 3 v1.toNatClampNeg) (fun x2 => (f_X7_isHeld o v1 M).bind (fun q3 => if q3 = 0 then if x2 = 0 then f_X7_enviedBy_30 o M v1 x2 else if x2 = 3 then f_X7_enviedBy_30 o M v1 x2 else f_X7_enviedBy_27 o M else f_X7_enviedBy_27 o M)) else none
set_option maxHeartbeats 4000000 in
set_option maxRecDepth 100000 in
theorem ct_X7_enviedBy {g : GT} {l : Launch} {o : Nat} {v1 : Int32} {M : Mem} {t : Int32} (ho : o < 18) (h : f_X7_enviedBy o v1 M = some t) : Ct g l 1 yX7_enviedBy cX7_enviedBy 7 (some .int) [.ref (ga g o 0), .int v1] M (some (.int t)) M := by
  refine ct_of (k := 5) (by decide) (Nat.le_of_ble_eq_true rfl) rfl (fun X C hl hr hR => ?_)
  subst hl
  have C : Cx g X cX7_enviedBy RX7 7 1 := C
  unfold f_X7_enviedBy at h
  refine kj_ald0 (pc := 0) C dX7_enviedBy_0 ?_
  refine gf_X7_34 (pc := 1) C ho dX7_enviedBy_1 ?_
  refine gf_X7_44 (pc := 4) C dX7_enviedBy_4 ?_
  refine kj_ild1 (pc := 7) C dX7_enviedBy_7 ?_
  obtain ⟨c1, h⟩ := of_gd h
  refine kj_iald2 (pc := 8) C ia_19_3 c1 dX7_enviedBy_8 ?_
  obtain ⟨x2, ex2, h⟩ := of_lt h
  refine kj_ni ex2 ?_
  refine kj_ist2 (pc := 9) C dX7_enviedBy_9 (Nat.le_of_ble_eq_true rfl) rfl ?_
  refine kj_ald0 (pc := 10) C dX7_enviedBy_10 ?_
  refine kj_ild1 (pc := 11) C dX7_enviedBy_11 ?_
  obtain ⟨q3, eq3, h⟩ := of_bind h
  refine kj_callV1 (pc := 12) C (ct_X7_isHeld ho eq3) (Nat.le_of_ble_eq_true rfl) mi_X7_isHeld ml_X7_53 (rc_st ho) rfl rfl ar1 (Nat.le_of_ble_eq_true rfl) dX7_enviedBy_12 ?_
  refine kj_if_ne (pc := 15) C dX7_enviedBy_15 (tgt := 27) (by decide) (fun c4 => ?_) (fun c4 => ?_)
  · have h := of_neg c4 h
    exact k_X7_enviedBy_27 C hr hR ho  _ _ _ _ _ _ _ h
  · have h := of_pos c4 h
    refine kj_ild2 (pc := 18) C dX7_enviedBy_18 ?_
    refine kj_if_eq (pc := 19) C dX7_enviedBy_19 (tgt := 30) (by decide) (fun c5 => ?_) (fun c5 => ?_)
    · have h := of_pos c5 h
      exact k_X7_enviedBy_30 C hr hR ho _ _ _ _ _ _ h
    · have h := of_neg c5 h
      refine kj_ild2 (pc := 22) C dX7_enviedBy_22 ?_
      refine kj_iconst (pc := 23) C (v := 3) dX7_enviedBy_23 ci_3 ?_
      refine kj_icmp_eq (pc := 24) C dX7_enviedBy_24 (tgt := 30) (by decide) (fun c6 => ?_) (fun c6 => ?_)
      · have h := of_pos c6 h
        exact k_X7_enviedBy_30 C hr hR ho _ _ _ _ _ _ h
      · have h := of_neg c6 h
        exact k_X7_enviedBy_27 C hr hR ho  _ _ _ _ _ _ _ h
def f_X7_nextNoteOf_41 (o : Nat) (M : Mem) (v3 : Int32) : Option (Int32) := some v3
set_option maxHeartbeats 4000000 in
set_option maxRecDepth 100000 in
theorem k_X7_nextNoteOf_41 {g : GT} {X : XT} {o : Nat} {M : Mem} {t : Int32} (C : Cx g X cX7_nextNoteOf RX7 5 2) (hr : (xt X).sig.returnType = some .int) (hR : Rt g X (some (.int t)) M) (ho : o < 18) : ∀ (v3 : Int32) (w0 w1 w2 w4 : Option Value), f_X7_nextNoteOf_41 o M v3 = some t → Kj g X 5 41 [w0, w1, w2, some (.int v3), w4] [] M := by
  intro v3 w0 w1 w2 w4 h
  unfold f_X7_nextNoteOf_41 at h
  refine kj_ild3 (pc := 41) C dX7_nextNoteOf_41 ?_
  cases h
  exact kj_iret (pc := 42) C hr hR dX7_nextNoteOf_42
def f_X7_nextNoteOf (o : Nat) (v1 : Int32) (M : Mem) : Option (Int32) := (f_X7_isHeld o v1 M).bind (fun q1 => if q1 = 0 then (f_X7_enviedBy o v1 M).bind (fun q3 => if ¬ (v1 < 0 ∨ 6 ≤ v1.toNatClampNeg) then lt_ (M.1 19 1 v1.toNatClampNeg) (fun x5 => if q3 < 0 then f_X7_nextNoteOf_41 o M x5 else if q3 < 6 then if ¬ (v1 < 0 ∨ 6 ≤ v1.toNatClampNeg) then lt_ (M.1 19 2 v1.toNatClampNeg) (fun x9 => if ¬ (q3 < 0 ∨ 6 ≤ q3.toNatClampNeg) then lt_ (if (x5 + x9) < (M.1 o 3 q3.toNatClampNeg) then (x5 + x9) else (M.1 o 3 q3.toNatClampNeg)) (fun x11 => lt_ (if x11 < (x5 - x9) then (x5 - x9) else x11) (fun x12 => some x12)) else none) else none else f_X7_nextNoteOf_41 o M x5) else none) else if ¬ (v1 < 0 ∨ 6 ≤ v1.toNatClampNeg) then some (M.1 o 3 v1.toNatClampNeg) else none)
set_option maxHeartbeats 4000000 in
set_option maxRecDepth 100000 in
theorem ct_X7_nextNoteOf {g : GT} {l : Launch} {o : Nat} {v1 : Int32} {M : Mem} {t : Int32} (ho : o < 18) (h : f_X7_nextNoteOf o v1 M = some t) : Ct g l 2 yX7_nextNoteOf cX7_nextNoteOf 5 (some .int) [.ref (ga g o 0), .int v1] M (some (.int t)) M := by
  refine ct_of (k := 3) (by decide) (Nat.le_of_ble_eq_true rfl) rfl (fun X C hl hr hR => ?_)
  subst hl
  have C : Cx g X cX7_nextNoteOf RX7 5 2 := C
  unfold f_X7_nextNoteOf at h
  refine kj_ald0 (pc := 0) C dX7_nextNoteOf_0 ?_
  refine kj_ild1 (pc := 1) C dX7_nextNoteOf_1 ?_
  obtain ⟨q1, eq1, h⟩ := of_bind h
  refine kj_callV1 (pc := 2) C (ct_X7_isHeld ho eq1) (Nat.le_of_ble_eq_true rfl) mi_X7_isHeld ml_X7_53 (rc_st ho) rfl rfl ar1 (Nat.le_of_ble_eq_true rfl) dX7_nextNoteOf_2 ?_
  refine kj_if_eq (pc := 5) C dX7_nextNoteOf_5 (tgt := 15) (by decide) (fun c2 => ?_) (fun c2 => ?_)
  · have h := of_pos c2 h
    refine kj_ald0 (pc := 15) C dX7_nextNoteOf_15 ?_
    refine kj_ild1 (pc := 16) C dX7_nextNoteOf_16 ?_
    obtain ⟨q3, eq3, h⟩ := of_bind h
    refine kj_callV1 (pc := 17) C (ct_X7_enviedBy ho eq3) (Nat.le_of_ble_eq_true rfl) mi_X7_enviedBy ml_X7_57 (rc_st ho) rfl rfl ar1 (Nat.le_of_ble_eq_true rfl) dX7_nextNoteOf_17 ?_
    refine kj_ist2 (pc := 20) C dX7_nextNoteOf_20 (Nat.le_of_ble_eq_true rfl) rfl ?_
    refine kj_ald0 (pc := 21) C dX7_nextNoteOf_21 ?_
    refine gf_X7_34 (pc := 22) C ho dX7_nextNoteOf_22 ?_
    refine gf_X7_61 (pc := 25) C dX7_nextNoteOf_25 ?_
    refine kj_ild1 (pc := 28) C dX7_nextNoteOf_28 ?_
    obtain ⟨c4, h⟩ := of_gd h
    refine kj_iald2 (pc := 29) C ia_19_1 c4 dX7_nextNoteOf_29 ?_
    obtain ⟨x5, ex5, h⟩ := of_lt h
    refine kj_ni ex5 ?_
    refine kj_ist3 (pc := 30) C dX7_nextNoteOf_30 (Nat.le_of_ble_eq_true rfl) rfl ?_
    refine kj_ild2 (pc := 31) C dX7_nextNoteOf_31 ?_
    refine kj_if_lt (pc := 32) C dX7_nextNoteOf_32 (tgt := 41) (by decide) (fun c6 => ?_) (fun c6 => ?_)
    · have h := of_pos c6 h
      exact k_X7_nextNoteOf_41 C hr hR ho _ _ _ _ _ h
    · have h := of_neg c6 h
      refine kj_ild2 (pc := 35) C dX7_nextNoteOf_35 ?_
      refine kj_bipush (pc := 36) C (v := 6) dX7_nextNoteOf_36 cb_6 ?_
      refine kj_icmp_lt (pc := 38) C dX7_nextNoteOf_38 (tgt := 43) (by decide) (fun c7 => ?_) (fun c7 => ?_)
      · have h := of_pos c7 h
        refine kj_ald0 (pc := 43) C dX7_nextNoteOf_43 ?_
        refine gf_X7_34 (pc := 44) C ho dX7_nextNoteOf_44 ?_
        refine gf_X7_64 (pc := 47) C dX7_nextNoteOf_47 ?_
        refine kj_ild1 (pc := 50) C dX7_nextNoteOf_50 ?_
        obtain ⟨c8, h⟩ := of_gd h
        refine kj_iald2 (pc := 51) C ia_19_2 c8 dX7_nextNoteOf_51 ?_
        obtain ⟨x9, ex9, h⟩ := of_lt h
        refine kj_ni ex9 ?_
        refine kj_ist4 (pc := 52) C dX7_nextNoteOf_52 (Nat.le_of_ble_eq_true rfl) rfl ?_
        refine kj_ald0 (pc := 54) C dX7_nextNoteOf_54 ?_
        refine gf_X7_18 (pc := 55) C ho dX7_nextNoteOf_55 ?_
        refine kj_ild2 (pc := 58) C dX7_nextNoteOf_58 ?_
        obtain ⟨c10, h⟩ := of_gd h
        refine kj_iald2 (pc := 59) C (ia_st ho ⟨by decide, by decide⟩) c10 dX7_nextNoteOf_59 ?_
        refine kj_ild3 (pc := 60) C dX7_nextNoteOf_60 ?_
        refine kj_ild4 (pc := 61) C dX7_nextNoteOf_61 ?_
        refine kj_iadd (pc := 63) C dX7_nextNoteOf_63 ?_
        obtain ⟨x11, ex11, h⟩ := of_lt h
        refine kj_mmin2 (pc := 64) C ml_X7_67 (Nat.le_of_ble_eq_true rfl) dX7_nextNoteOf_64 ?_
        refine kj_ni ex11 ?_
        refine kj_ild3 (pc := 67) C dX7_nextNoteOf_67 ?_
        refine kj_ild4 (pc := 68) C dX7_nextNoteOf_68 ?_
        refine kj_isub (pc := 70) C dX7_nextNoteOf_70 ?_
        obtain ⟨x12, ex12, h⟩ := of_lt h
        refine kj_mmax2 (pc := 71) C ml_X7_73 (Nat.le_of_ble_eq_true rfl) dX7_nextNoteOf_71 ?_
        refine kj_ni ex12 ?_
        cases h
        exact kj_iret (pc := 74) C hr hR dX7_nextNoteOf_74
      · have h := of_neg c7 h
        exact k_X7_nextNoteOf_41 C hr hR ho _ _ _ _ _ h
  · have h := of_neg c2 h
    refine kj_ald0 (pc := 8) C dX7_nextNoteOf_8 ?_
    refine gf_X7_18 (pc := 9) C ho dX7_nextNoteOf_9 ?_
    refine kj_ild1 (pc := 12) C dX7_nextNoteOf_12 ?_
    obtain ⟨c13, h⟩ := of_gd h
    refine kj_iald2 (pc := 13) C (ia_st ho ⟨by decide, by decide⟩) c13 dX7_nextNoteOf_13 ?_
    cases h
    exact kj_iret (pc := 14) C hr hR dX7_nextNoteOf_14
def f_X7_goOn_112 (o : Nat) (M : Mem) : Option (Mem) := some M
set_option maxHeartbeats 4000000 in
set_option maxRecDepth 100000 in
theorem k_X7_goOn_112 {g : GT} {X : XT} {o : Nat} {t : Mem} (C : Cx g X cX7_goOn RX7 5 3) (hr : (xt X).sig.returnType = none) (hR : Rt g X none t) (ho : o < 18) : ∀ (M : Mem) (w0 w1 w2 w3 w4 : Option Value), f_X7_goOn_112 o M = some t → Kj g X 5 112 [w0, w1, w2, w3, w4] [] M := by
  intro M w0 w1 w2 w3 w4 h
  unfold f_X7_goOn_112 at h
  cases h
  exact kj_vret (pc := 112) C hr hR dX7_goOn_112
def f_X7_goOn_77 (o : Nat) (k2 : Int32 → Int32 → Mem → Option (Mem)) (k12 : Int32 → Int32 → Int32 → Int32 → Mem → Option (Mem)) (v1 : Int32) (v2 : Int32) (v4 : Int32) (s0 : Int32) (M : Mem) : Option (Mem) := lt_ (v4 + 1) (fun x1 => k12 v1 v2 s0 x1 M)
set_option maxHeartbeats 4000000 in
set_option maxRecDepth 100000 in
theorem k_X7_goOn_77 {g : GT} {X : XT} {o : Nat} {k2 : Int32 → Int32 → Mem → Option (Mem)} {k12 : Int32 → Int32 → Int32 → Int32 → Mem → Option (Mem)} {t : Mem} (C : Cx g X cX7_goOn RX7 5 3) (hr : (xt X).sig.returnType = none) (hR : Rt g X none t) (ho : o < 18) (hk2 : ∀ (v1 : Int32) (v2 : Int32) (M : Mem) (w3 w4 : Option Value), k2 v1 v2 M = some t → Kj g X 5 2 [some (.ref (ga g o 0)), some (.int v1), some (.int v2), w3, w4] [] M) (hk12 : ∀ (v1 : Int32) (v2 : Int32) (v3 : Int32) (v4 : Int32) (M : Mem), k12 v1 v2 v3 v4 M = some t → Kj g X 5 12 [some (.ref (ga g o 0)), some (.int v1), some (.int v2), some (.int v3), some (.int v4)] [] M) : ∀ (v1 : Int32) (v2 : Int32) (v4 : Int32) (s0 : Int32) (M : Mem) (w3 : Option Value), f_X7_goOn_77 o k2 k12 v1 v2 v4 s0 M = some t → Kj g X 5 77 [some (.ref (ga g o 0)), some (.int v1), some (.int v2), w3, some (.int v4)] [.int s0] M := by
  intro v1 v2 v4 s0 M w3 h
  unfold f_X7_goOn_77 at h
  refine kj_ist3 (pc := 77) C dX7_goOn_77 (Nat.le_of_ble_eq_true rfl) rfl ?_
  obtain ⟨x1, ex1, h⟩ := of_lt h
  refine kj_iinc4 (pc := 78) C (v := x1) dX7_goOn_78 (Nat.le_of_ble_eq_true rfl) rfl (by rw [ex1, ci_1]) ?_
  refine kj_goto (pc := 81) C dX7_goOn_81 (tgt := 12) (by decide) ?_
  exact hk12 _ _ _ _ _ h
def f_X7_goOn_72 (o : Nat) (k2 : Int32 → Int32 → Mem → Option (Mem)) (k12 : Int32 → Int32 → Int32 → Int32 → Mem → Option (Mem)) (v1 : Int32) (v2 : Int32) (v4 : Int32) (M : Mem) : Option (Mem) := f_X7_goOn_77 o k2 k12 v1 v2 v4 1 M
set_option maxHeartbeats 4000000 in
set_option maxRecDepth 100000 in
theorem k_X7_goOn_72 {g : GT} {X : XT} {o : Nat} {k2 : Int32 → Int32 → Mem → Option (Mem)} {k12 : Int32 → Int32 → Int32 → Int32 → Mem → Option (Mem)} {t : Mem} (C : Cx g X cX7_goOn RX7 5 3) (hr : (xt X).sig.returnType = none) (hR : Rt g X none t) (ho : o < 18) (hk2 : ∀ (v1 : Int32) (v2 : Int32) (M : Mem) (w3 w4 : Option Value), k2 v1 v2 M = some t → Kj g X 5 2 [some (.ref (ga g o 0)), some (.int v1), some (.int v2), w3, w4] [] M) (hk12 : ∀ (v1 : Int32) (v2 : Int32) (v3 : Int32) (v4 : Int32) (M : Mem), k12 v1 v2 v3 v4 M = some t → Kj g X 5 12 [some (.ref (ga g o 0)), some (.int v1), some (.int v2), some (.int v3), some (.int v4)] [] M) : ∀ (v1 : Int32) (v2 : Int32) (v4 : Int32) (M : Mem) (w3 : Option Value), f_X7_goOn_72 o k2 k12 v1 v2 v4 M = some t → Kj g X 5 72 [some (.ref (ga g o 0)), some (.int v1), some (.int v2), w3, some (.int v4)] [] M := by
  intro v1 v2 v4 M w3 h
  unfold f_X7_goOn_72 at h
  refine kj_iconst (pc := 72) C (v := 1) dX7_goOn_72 ci_1 ?_
  refine kj_goto (pc := 73) C dX7_goOn_73 (tgt := 77) (by decide) ?_
  exact k_X7_goOn_77 C hr hR ho hk2 hk12 _ _ _ _ _ _ h
def f_X7_goOn_50 (o : Nat) (k2 : Int32 → Int32 → Mem → Option (Mem)) (k12 : Int32 → Int32 → Int32 → Int32 → Mem → Option (Mem)) (v1 : Int32) (v2 : Int32) (v3 : Int32) (v4 : Int32) (s1 : Int32) (s2 : Int32) (M : Mem) : Option (Mem) := if ¬ (s1 < 0 ∨ 6 ≤ s1.toNatClampNeg) then lt_ (sw M o 4 s1.toNatClampNeg s2) (fun M2 => if v3 = 0 then if ¬ (v4 < 0 ∨ 6 ≤ v4.toNatClampNeg) then if ¬ (v4 < 0 ∨ 6 ≤ v4.toNatClampNeg) then if (M2.1 o 4 v4.toNatClampNeg) = (M2.1 o 3 v4.toNatClampNeg) then f_X7_goOn_77 o k2 k12 v1 v2 v4 0 M2 else f_X7_goOn_72 o k2 k12 v1 v2 v4 M2 else none else none else f_X7_goOn_72 o k2 k12 v1 v2 v4 M2) else none
set_option maxHeartbeats 4000000 in
set_option maxRecDepth 100000 in
theorem k_X7_goOn_50 {g : GT} {X : XT} {o : Nat} {k2 : Int32 → Int32 → Mem → Option (Mem)} {k12 : Int32 → Int32 → Int32 → Int32 → Mem → Option (Mem)} {t : Mem} (C : Cx g X cX7_goOn RX7 5 3) (hr : (xt X).sig.returnType = none) (hR : Rt g X none t) (ho : o < 18) (hk2 : ∀ (v1 : Int32) (v2 : Int32) (M : Mem) (w3 w4 : Option Value), k2 v1 v2 M = some t → Kj g X 5 2 [some (.ref (ga g o 0)), some (.int v1), some (.int v2), w3, w4] [] M) (hk12 : ∀ (v1 : Int32) (v2 : Int32) (v3 : Int32) (v4 : Int32) (M : Mem), k12 v1 v2 v3 v4 M = some t → Kj g X 5 12 [some (.ref (ga g o 0)), some (.int v1), some (.int v2), some (.int v3), some (.int v4)] [] M) : ∀ (v1 : Int32) (v2 : Int32) (v3 : Int32) (v4 : Int32) (s1 : Int32) (s2 : Int32) (M : Mem), f_X7_goOn_50 o k2 k12 v1 v2 v3 v4 s1 s2 M = some t → Kj g X 5 50 [some (.ref (ga g o 0)), some (.int v1), some (.int v2), some (.int v3), some (.int v4)] [.int s2, .int s1, .ref (ga g o 4)] M := by
  intro v1 v2 v3 v4 s1 s2 M h
  unfold f_X7_goOn_50 at h
  obtain ⟨c1, h⟩ := of_gd h
  obtain ⟨M2, eM2, h⟩ := of_lt h
  refine kj_iast2 (pc := 50) C (ia_st ho ⟨by decide, by decide⟩) c1 dX7_goOn_50 ?_
  refine kj_nM eM2 ?_
  refine kj_ild3 (pc := 51) C dX7_goOn_51 ?_
  refine kj_if_ne (pc := 52) C dX7_goOn_52 (tgt := 72) (by decide) (fun c3 => ?_) (fun c3 => ?_)
  · have h := of_neg c3 h
    exact k_X7_goOn_72 C hr hR ho hk2 hk12 _ _ _ _ _ h
  · have h := of_pos c3 h
    refine kj_ald0 (pc := 55) C dX7_goOn_55 ?_
    refine gf_X7_21 (pc := 56) C ho dX7_goOn_56 ?_
    refine kj_ild4 (pc := 59) C dX7_goOn_59 ?_
    obtain ⟨c4, h⟩ := of_gd h
    refine kj_iald2 (pc := 61) C (ia_st ho ⟨by decide, by decide⟩) c4 dX7_goOn_61 ?_
    refine kj_ald0 (pc := 62) C dX7_goOn_62 ?_
    refine gf_X7_18 (pc := 63) C ho dX7_goOn_63 ?_
    refine kj_ild4 (pc := 66) C dX7_goOn_66 ?_
    obtain ⟨c5, h⟩ := of_gd h
    refine kj_iald2 (pc := 68) C (ia_st ho ⟨by decide, by decide⟩) c5 dX7_goOn_68 ?_
    refine kj_icmp_eq (pc := 69) C dX7_goOn_69 (tgt := 76) (by decide) (fun c6 => ?_) (fun c6 => ?_)
    · have h := of_pos c6 h
      refine kj_iconst (pc := 76) C (v := 0) dX7_goOn_76 ci_0 ?_
      exact k_X7_goOn_77 C hr hR ho hk2 hk12 _ _ _ _ _ _ h
    · have h := of_neg c6 h
      exact k_X7_goOn_72 C hr hR ho hk2 hk12 _ _ _ _ _ h
def f_X7_goOn_12 (o : Nat) (k2 : Int32 → Int32 → Mem → Option (Mem)) (n : Nat) (v1 : Int32) (v2 : Int32) (v3 : Int32) (v4 : Int32) (M : Mem) : Option (Mem) := match n with
  | 0 => none
  | n + 1 => if 6 ≤ v4 then if v3 = 0 then f_X7_goOn_112 o M else lt_ (sr M o 3 (va_cpy (M.1 o 4) (M.1 o 3) 0 0 6)) (fun M3 => lt_ (v2 + 1) (fun x4 => k2 v1 x4 M3)) else (f_X7_isThere o v4 M).bind (fun q5 => if q5 = 0 then if ¬ (v4 < 0 ∨ 6 ≤ v4.toNatClampNeg) then f_X7_goOn_50 o k2 (f_X7_goOn_12 o k2 n) v1 v2 v3 v4 v4 (M.1 o 3 v4.toNatClampNeg) M else none else (f_X7_nextNoteOf o v4 M).bind (fun q8 => f_X7_goOn_50 o k2 (f_X7_goOn_12 o k2 n) v1 v2 v3 v4 v4 q8 M))
set_option maxHeartbeats 4000000 in
set_option maxRecDepth 100000 in
theorem k_X7_goOn_12 {g : GT} {X : XT} {o : Nat} {k2 : Int32 → Int32 → Mem → Option (Mem)} {t : Mem} (C : Cx g X cX7_goOn RX7 5 3) (hr : (xt X).sig.returnType = none) (hR : Rt g X none t) (ho : o < 18) (hk2 : ∀ (v1 : Int32) (v2 : Int32) (M : Mem) (w3 w4 : Option Value), k2 v1 v2 M = some t → Kj g X 5 2 [some (.ref (ga g o 0)), some (.int v1), some (.int v2), w3, w4] [] M) (n : Nat) : ∀ (v1 : Int32) (v2 : Int32) (v3 : Int32) (v4 : Int32) (M : Mem), f_X7_goOn_12 o k2 n v1 v2 v3 v4 M = some t → Kj g X 5 12 [some (.ref (ga g o 0)), some (.int v1), some (.int v2), some (.int v3), some (.int v4)] [] M := by
  induction n with
  | zero => intro v1 v2 v3 v4 M h; rw [f_X7_goOn_12] at h; cases h
  | succ n ih =>
    intro v1 v2 v3 v4 M h
    rw [f_X7_goOn_12] at h
    refine kj_ild4 (pc := 12) C dX7_goOn_12 ?_
    refine kj_bipush (pc := 14) C (v := 6) dX7_goOn_14 cb_6 ?_
    refine kj_icmp_ge (pc := 16) C dX7_goOn_16 (tgt := 84) (by decide) (fun c1 => ?_) (fun c1 => ?_)
    · have h := of_pos c1 h
      refine kj_ild3 (pc := 84) C dX7_goOn_84 ?_
      refine kj_if_ne (pc := 85) C dX7_goOn_85 (tgt := 91) (by decide) (fun c2 => ?_) (fun c2 => ?_)
      · have h := of_neg c2 h
        refine kj_ald0 (pc := 91) C dX7_goOn_91 ?_
        refine gf_X7_21 (pc := 92) C ho dX7_goOn_92 ?_
        refine kj_iconst (pc := 95) C (v := 0) dX7_goOn_95 ci_0 ?_
        refine kj_ald0 (pc := 96) C dX7_goOn_96 ?_
        refine gf_X7_18 (pc := 97) C ho dX7_goOn_97 ?_
        refine kj_iconst (pc := 100) C (v := 0) dX7_goOn_100 ci_0 ?_
        refine kj_bipush (pc := 101) C (v := 6) dX7_goOn_101 cb_6 ?_
        obtain ⟨M3, eM3, h⟩ := of_lt h
        refine kj_copy2 (pc := 103) C ml_X7_38 (ia_st ho ⟨by decide, by decide⟩) (ia_st ho ⟨by decide, by decide⟩) (Nat.le_of_ble_eq_true rfl) dX7_goOn_103 ?_
        refine kj_nM eM3 ?_
        obtain ⟨x4, ex4, h⟩ := of_lt h
        refine kj_iinc2 (pc := 106) C (v := x4) dX7_goOn_106 (Nat.le_of_ble_eq_true rfl) rfl (by rw [ex4, ci_1]) ?_
        refine kj_goto (pc := 109) C dX7_goOn_109 (tgt := 2) (by decide) ?_
        exact hk2 _ _ _ _ _ h
      · have h := of_pos c2 h
        refine kj_goto (pc := 88) C dX7_goOn_88 (tgt := 112) (by decide) ?_
        exact k_X7_goOn_112 C hr hR ho  _ _ _ _ _ _ h
    · have h := of_neg c1 h
      refine kj_ald0 (pc := 19) C dX7_goOn_19 ?_
      refine gf_X7_21 (pc := 20) C ho dX7_goOn_20 ?_
      refine kj_ild4 (pc := 23) C dX7_goOn_23 ?_
      refine kj_ald0 (pc := 25) C dX7_goOn_25 ?_
      refine kj_ild4 (pc := 26) C dX7_goOn_26 ?_
      obtain ⟨q5, eq5, h⟩ := of_bind h
      refine kj_callV1 (pc := 28) C (ct_X7_isThere ho eq5) (Nat.le_of_ble_eq_true rfl) mi_X7_isThere ml_X7_76 (rc_st ho) rfl rfl ar1 (Nat.le_of_ble_eq_true rfl) dX7_goOn_28 ?_
      refine kj_if_eq (pc := 31) C dX7_goOn_31 (tgt := 43) (by decide) (fun c6 => ?_) (fun c6 => ?_)
      · have h := of_pos c6 h
        refine kj_ald0 (pc := 43) C dX7_goOn_43 ?_
        refine gf_X7_18 (pc := 44) C ho dX7_goOn_44 ?_
        refine kj_ild4 (pc := 47) C dX7_goOn_47 ?_
        obtain ⟨c7, h⟩ := of_gd h
        refine kj_iald2 (pc := 49) C (ia_st ho ⟨by decide, by decide⟩) c7 dX7_goOn_49 ?_
        exact k_X7_goOn_50 C hr hR ho hk2 ih _ _ _ _ _ _ _ h
      · have h := of_neg c6 h
        refine kj_ald0 (pc := 34) C dX7_goOn_34 ?_
        refine kj_ild4 (pc := 35) C dX7_goOn_35 ?_
        obtain ⟨q8, eq8, h⟩ := of_bind h
        refine kj_callV1 (pc := 37) C (ct_X7_nextNoteOf ho eq8) (Nat.le_of_ble_eq_true rfl) mi_X7_nextNoteOf ml_X7_79 (rc_st ho) rfl rfl ar1 (Nat.le_of_ble_eq_true rfl) dX7_goOn_37 ?_
        refine kj_goto (pc := 40) C dX7_goOn_40 (tgt := 50) (by decide) ?_
        exact k_X7_goOn_50 C hr hR ho hk2 ih _ _ _ _ _ _ _ h
def f_X7_goOn_2 (o : Nat) (n : Nat) (v1 : Int32) (v2 : Int32) (M : Mem) : Option (Mem) := match n with
  | 0 => none
  | n + 1 => if v1 ≤ v2 then f_X7_goOn_112 o M else f_X7_goOn_12 o (f_X7_goOn_2 o n) 100 v1 v2 0 0 M
set_option maxHeartbeats 4000000 in
set_option maxRecDepth 100000 in
theorem k_X7_goOn_2 {g : GT} {X : XT} {o : Nat} {t : Mem} (C : Cx g X cX7_goOn RX7 5 3) (hr : (xt X).sig.returnType = none) (hR : Rt g X none t) (ho : o < 18) (n : Nat) : ∀ (v1 : Int32) (v2 : Int32) (M : Mem) (w3 w4 : Option Value), f_X7_goOn_2 o n v1 v2 M = some t → Kj g X 5 2 [some (.ref (ga g o 0)), some (.int v1), some (.int v2), w3, w4] [] M := by
  induction n with
  | zero => intro v1 v2 M w3 w4 h; rw [f_X7_goOn_2] at h; cases h
  | succ n ih =>
    intro v1 v2 M w3 w4 h
    rw [f_X7_goOn_2] at h
    refine kj_ild2 (pc := 2) C dX7_goOn_2 ?_
    refine kj_ild1 (pc := 3) C dX7_goOn_3 ?_
    refine kj_icmp_ge (pc := 4) C dX7_goOn_4 (tgt := 112) (by decide) (fun c1 => ?_) (fun c1 => ?_)
    · have h := of_pos c1 h
      exact k_X7_goOn_112 C hr hR ho  _ _ _ _ _ _ h
    · have h := of_neg c1 h
      refine kj_iconst (pc := 7) C (v := 0) dX7_goOn_7 ci_0 ?_
      refine kj_ist3 (pc := 8) C dX7_goOn_8 (Nat.le_of_ble_eq_true rfl) rfl ?_
      refine kj_iconst (pc := 9) C (v := 0) dX7_goOn_9 ci_0 ?_
      refine kj_ist4 (pc := 10) C dX7_goOn_10 (Nat.le_of_ble_eq_true rfl) rfl ?_
      exact k_X7_goOn_12 C hr hR ho ih 100 _ _ _ _ _ h
def f_X7_goOn (o : Nat) (v1 : Int32) (M : Mem) : Option (Mem) := f_X7_goOn_2 o 100 v1 0 M
set_option maxHeartbeats 4000000 in
set_option maxRecDepth 100000 in
theorem ct_X7_goOn {g : GT} {l : Launch} {o : Nat} {v1 : Int32} {M : Mem} {t : Mem} (ho : o < 18) (h : f_X7_goOn o v1 M = some t) : Ct g l 3 yX7_goOn cX7_goOn 5 (none) [.ref (ga g o 0), .int v1] M (none) t := by
  refine ct_of (k := 3) (by decide) (Nat.le_of_ble_eq_true rfl) rfl (fun X C hl hr hR => ?_)
  subst hl
  have C : Cx g X cX7_goOn RX7 5 3 := C
  unfold f_X7_goOn at h
  refine kj_iconst (pc := 0) C (v := 0) dX7_goOn_0 ci_0 ?_
  refine kj_ist2 (pc := 1) C dX7_goOn_1 (Nat.le_of_ble_eq_true rfl) rfl ?_
  exact k_X7_goOn_2 C hr hR ho 100 _ _ _ _ _ h
def f_J6_bitCount_0f7a4 (v0 : Int32) (M : Mem) : Option (Int32) := lt_ (v0 - (((v0.toUInt32 >>> ((1 : Int32).toUInt32 &&& Int32.toUInt32 31)).toInt32) &&& (1431655765 : Int32))) (fun x1 => lt_ ((x1 &&& (858993459 : Int32)) + (((x1.toUInt32 >>> ((2 : Int32).toUInt32 &&& Int32.toUInt32 31)).toInt32) &&& (858993459 : Int32))) (fun x2 => lt_ ((x2 + ((x2.toUInt32 >>> ((4 : Int32).toUInt32 &&& Int32.toUInt32 31)).toInt32)) &&& (252645135 : Int32)) (fun x3 => lt_ (x3 + ((x3.toUInt32 >>> ((8 : Int32).toUInt32 &&& Int32.toUInt32 31)).toInt32)) (fun x4 => lt_ (x4 + ((x4.toUInt32 >>> ((16 : Int32).toUInt32 &&& Int32.toUInt32 31)).toInt32)) (fun x5 => some (x5 &&& (63 : Int32)))))))
set_option maxHeartbeats 4000000 in
set_option maxRecDepth 100000 in
theorem ct_J6_bitCount_0f7a4 {g : GT} {l : Launch} {v0 : Int32} {M : Mem} {t : Int32} (h : f_J6_bitCount_0f7a4 v0 M = some t) : Ct g l 0 yJ6_bitCount_0f7a4 cJ6_bitCount_0f7a4 1 (some .int) [.int v0] M (some (.int t)) M := by
  refine ct_of (k := 0) (by decide) (Nat.le_of_ble_eq_true rfl) rfl (fun X C hl hr hR => ?_)
  subst hl
  have C : Cx g X cJ6_bitCount_0f7a4 RJ6 1 0 := C
  unfold f_J6_bitCount_0f7a4 at h
  refine kj_ild0 (pc := 0) C dJ6_bitCount_0f7a4_0 ?_
  refine kj_ild0 (pc := 1) C dJ6_bitCount_0f7a4_1 ?_
  refine kj_iconst (pc := 2) C (v := 1) dJ6_bitCount_0f7a4_2 ci_1 ?_
  refine kj_iushr (pc := 3) C dJ6_bitCount_0f7a4_3 ?_
  refine kj_ldcw (pc := 4) C cn_J6_265 dJ6_bitCount_0f7a4_4 ?_
  refine kj_iand (pc := 7) C dJ6_bitCount_0f7a4_7 ?_
  refine kj_isub (pc := 8) C dJ6_bitCount_0f7a4_8 ?_
  obtain ⟨x1, ex1, h⟩ := of_lt h
  refine kj_ni ex1 ?_
  refine kj_ist0 (pc := 9) C dJ6_bitCount_0f7a4_9 (Nat.le_of_ble_eq_true rfl) ?_
  refine kj_ild0 (pc := 10) C dJ6_bitCount_0f7a4_10 ?_
  refine kj_ldcw (pc := 11) C cn_J6_266 dJ6_bitCount_0f7a4_11 ?_
  refine kj_iand (pc := 14) C dJ6_bitCount_0f7a4_14 ?_
  refine kj_ild0 (pc := 15) C dJ6_bitCount_0f7a4_15 ?_
  refine kj_iconst (pc := 16) C (v := 2) dJ6_bitCount_0f7a4_16 ci_2 ?_
  refine kj_iushr (pc := 17) C dJ6_bitCount_0f7a4_17 ?_
  refine kj_ldcw (pc := 18) C cn_J6_266 dJ6_bitCount_0f7a4_18 ?_
  refine kj_iand (pc := 21) C dJ6_bitCount_0f7a4_21 ?_
  refine kj_iadd (pc := 22) C dJ6_bitCount_0f7a4_22 ?_
  obtain ⟨x2, ex2, h⟩ := of_lt h
  refine kj_ni ex2 ?_
  refine kj_ist0 (pc := 23) C dJ6_bitCount_0f7a4_23 (Nat.le_of_ble_eq_true rfl) ?_
  refine kj_ild0 (pc := 24) C dJ6_bitCount_0f7a4_24 ?_
  refine kj_ild0 (pc := 25) C dJ6_bitCount_0f7a4_25 ?_
  refine kj_iconst (pc := 26) C (v := 4) dJ6_bitCount_0f7a4_26 ci_4 ?_
  refine kj_iushr (pc := 27) C dJ6_bitCount_0f7a4_27 ?_
  refine kj_iadd (pc := 28) C dJ6_bitCount_0f7a4_28 ?_
  refine kj_ldcw (pc := 29) C cn_J6_267 dJ6_bitCount_0f7a4_29 ?_
  refine kj_iand (pc := 32) C dJ6_bitCount_0f7a4_32 ?_
  obtain ⟨x3, ex3, h⟩ := of_lt h
  refine kj_ni ex3 ?_
  refine kj_ist0 (pc := 33) C dJ6_bitCount_0f7a4_33 (Nat.le_of_ble_eq_true rfl) ?_
  refine kj_ild0 (pc := 34) C dJ6_bitCount_0f7a4_34 ?_
  refine kj_ild0 (pc := 35) C dJ6_bitCount_0f7a4_35 ?_
  refine kj_bipush (pc := 36) C (v := 8) dJ6_bitCount_0f7a4_36 cb_8 ?_
  refine kj_iushr (pc := 38) C dJ6_bitCount_0f7a4_38 ?_
  refine kj_iadd (pc := 39) C dJ6_bitCount_0f7a4_39 ?_
  obtain ⟨x4, ex4, h⟩ := of_lt h
  refine kj_ni ex4 ?_
  refine kj_ist0 (pc := 40) C dJ6_bitCount_0f7a4_40 (Nat.le_of_ble_eq_true rfl) ?_
  refine kj_ild0 (pc := 41) C dJ6_bitCount_0f7a4_41 ?_
  refine kj_ild0 (pc := 42) C dJ6_bitCount_0f7a4_42 ?_
  refine kj_bipush (pc := 43) C (v := 16) dJ6_bitCount_0f7a4_43 cb_16 ?_
  refine kj_iushr (pc := 45) C dJ6_bitCount_0f7a4_45 ?_
  refine kj_iadd (pc := 46) C dJ6_bitCount_0f7a4_46 ?_
  obtain ⟨x5, ex5, h⟩ := of_lt h
  refine kj_ni ex5 ?_
  refine kj_ist0 (pc := 47) C dJ6_bitCount_0f7a4_47 (Nat.le_of_ble_eq_true rfl) ?_
  refine kj_ild0 (pc := 48) C dJ6_bitCount_0f7a4_48 ?_
  refine kj_bipush (pc := 49) C (v := 63) dJ6_bitCount_0f7a4_49 cb_63 ?_
  refine kj_iand (pc := 51) C dJ6_bitCount_0f7a4_51 ?_
  cases h
  exact kj_iret (pc := 52) C hr hR dJ6_bitCount_0f7a4_52
def f_X7_bitsOf_26 (o : Nat) (r1 : Nat) (M : Mem) (k4 : Int32 → Int32 → Option (Int32)) (v2 : Int32) (v3 : Int32) : Option (Int32) := lt_ (v3 + 1) (fun x1 => k4 v2 x1)
set_option maxHeartbeats 4000000 in
set_option maxRecDepth 100000 in
theorem k_X7_bitsOf_26 {g : GT} {X : XT} {o : Nat} {r1 : Nat} {M : Mem} {k4 : Int32 → Int32 → Option (Int32)} {t : Int32} (C : Cx g X cX7_bitsOf RX7 4 1) (hr : (xt X).sig.returnType = some .int) (hR : Rt g X (some (.int t)) M) (ho : o < 18) (hr1 : 0 < r1 ∧ r1 < 5) (hk4 : ∀ (v2 : Int32) (v3 : Int32), k4 v2 v3 = some t → Kj g X 4 4 [some (.ref (ga g o 0)), some (.ref (ga g o r1)), some (.int v2), some (.int v3)] [] M) : ∀ (v2 : Int32) (v3 : Int32), f_X7_bitsOf_26 o r1 M k4 v2 v3 = some t → Kj g X 4 26 [some (.ref (ga g o 0)), some (.ref (ga g o r1)), some (.int v2), some (.int v3)] [] M := by
  intro v2 v3 h
  unfold f_X7_bitsOf_26 at h
  obtain ⟨x1, ex1, h⟩ := of_lt h
  refine kj_iinc3 (pc := 26) C (v := x1) dX7_bitsOf_26 (Nat.le_of_ble_eq_true rfl) rfl (by rw [ex1, ci_1]) ?_
  refine kj_goto (pc := 29) C dX7_bitsOf_29 (tgt := 4) (by decide) ?_
  exact hk4 _ _ h
def f_X7_bitsOf_4 (o : Nat) (r1 : Nat) (M : Mem) (n : Nat) (v2 : Int32) (v3 : Int32) : Option (Int32) := match n with
  | 0 => none
  | n + 1 => if 6 ≤ v3 then some v2 else (f_X7_isThere o v3 M).bind (fun q2 => if q2 = 0 then f_X7_bitsOf_26 o r1 M (f_X7_bitsOf_4 o r1 M n) v2 v3 else if ¬ (v3 < 0 ∨ 6 ≤ v3.toNatClampNeg) then lt_ (v2 ||| ((1 : Int32) <<< ((M.1 o r1 v3.toNatClampNeg) &&& 31))) (fun x5 => f_X7_bitsOf_26 o r1 M (f_X7_bitsOf_4 o r1 M n) x5 v3) else none)
set_option maxHeartbeats 4000000 in
set_option maxRecDepth 100000 in
theorem k_X7_bitsOf_4 {g : GT} {X : XT} {o : Nat} {r1 : Nat} {M : Mem} {t : Int32} (C : Cx g X cX7_bitsOf RX7 4 1) (hr : (xt X).sig.returnType = some .int) (hR : Rt g X (some (.int t)) M) (ho : o < 18) (hr1 : 0 < r1 ∧ r1 < 5) (n : Nat) : ∀ (v2 : Int32) (v3 : Int32), f_X7_bitsOf_4 o r1 M n v2 v3 = some t → Kj g X 4 4 [some (.ref (ga g o 0)), some (.ref (ga g o r1)), some (.int v2), some (.int v3)] [] M := by
  induction n with
  | zero => intro v2 v3 h; rw [f_X7_bitsOf_4] at h; cases h
  | succ n ih =>
    intro v2 v3 h
    rw [f_X7_bitsOf_4] at h
    refine kj_ild3 (pc := 4) C dX7_bitsOf_4 ?_
    refine kj_bipush (pc := 5) C (v := 6) dX7_bitsOf_5 cb_6 ?_
    refine kj_icmp_ge (pc := 7) C dX7_bitsOf_7 (tgt := 32) (by decide) (fun c1 => ?_) (fun c1 => ?_)
    · have h := of_pos c1 h
      refine kj_ild2 (pc := 32) C dX7_bitsOf_32 ?_
      cases h
      exact kj_iret (pc := 33) C hr hR dX7_bitsOf_33
    · have h := of_neg c1 h
      refine kj_ald0 (pc := 10) C dX7_bitsOf_10 ?_
      refine kj_ild3 (pc := 11) C dX7_bitsOf_11 ?_
      obtain ⟨q2, eq2, h⟩ := of_bind h
      refine kj_callV1 (pc := 12) C (ct_X7_isThere ho eq2) (Nat.le_of_ble_eq_true rfl) mi_X7_isThere ml_X7_76 (rc_st ho) rfl rfl ar1 (Nat.le_of_ble_eq_true rfl) dX7_bitsOf_12 ?_
      refine kj_if_eq (pc := 15) C dX7_bitsOf_15 (tgt := 26) (by decide) (fun c3 => ?_) (fun c3 => ?_)
      · have h := of_pos c3 h
        exact k_X7_bitsOf_26 C hr hR ho hr1 ih _ _ h
      · have h := of_neg c3 h
        refine kj_ild2 (pc := 18) C dX7_bitsOf_18 ?_
        refine kj_iconst (pc := 19) C (v := 1) dX7_bitsOf_19 ci_1 ?_
        refine kj_ald1 (pc := 20) C dX7_bitsOf_20 ?_
        refine kj_ild3 (pc := 21) C dX7_bitsOf_21 ?_
        obtain ⟨c4, h⟩ := of_gd h
        refine kj_iald2 (pc := 22) C (ia_st ho hr1) c4 dX7_bitsOf_22 ?_
        refine kj_ishl (pc := 23) C dX7_bitsOf_23 ?_
        refine kj_ior (pc := 24) C dX7_bitsOf_24 ?_
        obtain ⟨x5, ex5, h⟩ := of_lt h
        refine kj_ni ex5 ?_
        refine kj_ist2 (pc := 25) C dX7_bitsOf_25 (Nat.le_of_ble_eq_true rfl) rfl ?_
        exact k_X7_bitsOf_26 C hr hR ho hr1 ih _ _ h
def f_X7_bitsOf (o : Nat) (r1 : Nat) (M : Mem) : Option (Int32) := f_X7_bitsOf_4 o r1 M 100 0 0
set_option maxHeartbeats 4000000 in
set_option maxRecDepth 100000 in
theorem ct_X7_bitsOf {g : GT} {l : Launch} {o : Nat} {r1 : Nat} {M : Mem} {t : Int32} (ho : o < 18) (hr1 : 0 < r1 ∧ r1 < 5) (h : f_X7_bitsOf o r1 M = some t) : Ct g l 1 yX7_bitsOf cX7_bitsOf 4 (some .int) [.ref (ga g o 0), .ref (ga g o r1)] M (some (.int t)) M := by
  refine ct_of (k := 2) (by decide) (Nat.le_of_ble_eq_true rfl) rfl (fun X C hl hr hR => ?_)
  subst hl
  have C : Cx g X cX7_bitsOf RX7 4 1 := C
  unfold f_X7_bitsOf at h
  refine kj_iconst (pc := 0) C (v := 0) dX7_bitsOf_0 ci_0 ?_
  refine kj_ist2 (pc := 1) C dX7_bitsOf_1 (Nat.le_of_ble_eq_true rfl) rfl ?_
  refine kj_iconst (pc := 2) C (v := 0) dX7_bitsOf_2 ci_0 ?_
  refine kj_ist3 (pc := 3) C dX7_bitsOf_3 (Nat.le_of_ble_eq_true rfl) rfl ?_
  exact k_X7_bitsOf_4 C hr hR ho hr1 100 _ _ h
def f_X7_notesSung (o : Nat) (M : Mem) : Option (Int32) := (f_X7_bitsOf o 3 M).bind (fun q1 => some q1)
set_option maxHeartbeats 4000000 in
set_option maxRecDepth 100000 in
theorem ct_X7_notesSung {g : GT} {l : Launch} {o : Nat} {M : Mem} {t : Int32} (ho : o < 18) (h : f_X7_notesSung o M = some t) : Ct g l 2 yX7_notesSung cX7_notesSung 1 (some .int) [.ref (ga g o 0)] M (some (.int t)) M := by
  refine ct_of (k := 0) (by decide) (Nat.le_of_ble_eq_true rfl) rfl (fun X C hl hr hR => ?_)
  subst hl
  have C : Cx g X cX7_notesSung RX7 1 2 := C
  unfold f_X7_notesSung at h
  refine kj_ald0 (pc := 0) C dX7_notesSung_0 ?_
  refine kj_ald0 (pc := 1) C dX7_notesSung_1 ?_
  refine gf_X7_18 (pc := 2) C ho dX7_notesSung_2 ?_
  obtain ⟨q1, eq1, h⟩ := of_bind h
  refine kj_callV1 (pc := 5) C (ct_X7_bitsOf ho ⟨by decide, by decide⟩ eq1) (Nat.le_of_ble_eq_true rfl) mi_X7_bitsOf ml_X7_82 (rc_st ho) rfl rfl ar1 (Nat.le_of_ble_eq_true rfl) dX7_notesSung_5 ?_
  cases h
  exact kj_iret (pc := 8) C hr hR dX7_notesSung_8
def f_X7_richness (o : Nat) (M : Mem) : Option (Int32) := (f_X7_notesSung o M).bind (fun q1 => (f_J6_bitCount_0f7a4 q1 M).bind (fun q2 => some q2))
set_option maxHeartbeats 4000000 in
set_option maxRecDepth 100000 in
theorem ct_X7_richness {g : GT} {l : Launch} {o : Nat} {M : Mem} {t : Int32} (ho : o < 18) (h : f_X7_richness o M = some t) : Ct g l 3 yX7_richness cX7_richness 1 (some .int) [.ref (ga g o 0)] M (some (.int t)) M := by
  refine ct_of (k := 0) (by decide) (Nat.le_of_ble_eq_true rfl) rfl (fun X C hl hr hR => ?_)
  subst hl
  have C : Cx g X cX7_richness RX7 1 3 := C
  unfold f_X7_richness at h
  refine kj_ald0 (pc := 0) C dX7_richness_0 ?_
  obtain ⟨q1, eq1, h⟩ := of_bind h
  refine kj_callV1 (pc := 1) C (ct_X7_notesSung ho eq1) (Nat.le_of_ble_eq_true rfl) mi_X7_notesSung ml_X7_86 (rc_st ho) rfl rfl ar0 (Nat.le_of_ble_eq_true rfl) dX7_richness_1 ?_
  obtain ⟨q2, eq2, h⟩ := of_bind h
  refine kj_callS1 (pc := 4) C (ct_J6_bitCount_0f7a4 eq2) (Nat.le_of_ble_eq_true rfl) mi_J6_bitCount_0f7a4 ml_X7_90 rfl as1 (Nat.le_of_ble_eq_true rfl) dX7_richness_4 ?_
  cases h
  exact kj_iret (pc := 7) C hr hR dX7_richness_7
def f_X1_richnessOfSome (v1 : Int32) (v2 : Int32) (M : Mem) : Option (Int32 × Mem) := (f_X7_copyFrom 1 0 M).bind (fun q1 => lt_ (sw q1 1 0 5 v1) (fun M2 => (f_X7_goOn 1 v2 M2).bind (fun q3 => (f_X7_richness 1 q3).bind (fun q4 => some (q4, q3)))))
set_option maxHeartbeats 4000000 in
set_option maxRecDepth 100000 in
theorem ct_X1_richnessOfSome {g : GT} {l : Launch} {v1 : Int32} {v2 : Int32} {M : Mem} {t : Int32 × Mem} (h : f_X1_richnessOfSome v1 v2 M = some t) : Ct g l 4 yX1_richnessOfSome cX1_richnessOfSome 3 (some .int) [.ref (ga g 25 0), .int v1, .int v2] M (some (.int t.1)) t.2 := by
  refine ct_of (k := 0) (by decide) (Nat.le_of_ble_eq_true rfl) rfl (fun X C hl hr hR => ?_)
  subst hl
  have C : Cx g X cX1_richnessOfSome RX1 3 4 := C
  unfold f_X1_richnessOfSome at h
  refine kj_ald0 (pc := 0) C dX1_richnessOfSome_0 ?_
  refine gf_X1_29 (pc := 1) C dX1_richnessOfSome_1 ?_
  refine kj_ald0 (pc := 4) C dX1_richnessOfSome_4 ?_
  refine gf_X1_25 (pc := 5) C dX1_richnessOfSome_5 ?_
  obtain ⟨q1, eq1, h⟩ := of_bind h
  refine kj_callVN0 (pc := 8) C (ct_X7_copyFrom h18_1 h18_0 eq1) (Nat.le_of_ble_eq_true rfl) mi_X7_copyFrom ml_X1_32 (rc_st h18_1) rfl rfl ar1 (Nat.le_of_ble_eq_true rfl) dX1_richnessOfSome_8 ?_
  refine kj_ald0 (pc := 11) C dX1_richnessOfSome_11 ?_
  refine gf_X1_29 (pc := 12) C dX1_richnessOfSome_12 ?_
  refine kj_ild1 (pc := 15) C dX1_richnessOfSome_15 ?_
  obtain ⟨M2, eM2, h⟩ := of_lt h
  refine pf_X1_38 (pc := 16) C h18_1 dX1_richnessOfSome_16 ?_
  refine kj_nM eM2 ?_
  refine kj_ald0 (pc := 19) C dX1_richnessOfSome_19 ?_
  refine gf_X1_29 (pc := 20) C dX1_richnessOfSome_20 ?_
  refine kj_ild2 (pc := 23) C dX1_richnessOfSome_23 ?_
  obtain ⟨q3, eq3, h⟩ := of_bind h
  refine kj_callVN0 (pc := 24) C (ct_X7_goOn h18_1 eq3) (Nat.le_of_ble_eq_true rfl) mi_X7_goOn ml_X1_42 (rc_st h18_1) rfl rfl ar1 (Nat.le_of_ble_eq_true rfl) dX1_richnessOfSome_24 ?_
  refine kj_ald0 (pc := 27) C dX1_richnessOfSome_27 ?_
  refine gf_X1_29 (pc := 28) C dX1_richnessOfSome_28 ?_
  obtain ⟨q4, eq4, h⟩ := of_bind h
  refine kj_callVN1 (pc := 31) C (ct_X7_richness h18_1 eq4) (Nat.le_of_ble_eq_true rfl) mi_X7_richness ml_X1_46 (rc_st h18_1) rfl rfl ar0 (Nat.le_of_ble_eq_true rfl) dX1_richnessOfSome_31 ?_
  cases h
  exact kj_iret (pc := 34) C hr hR dX1_richnessOfSome_34
def f_X1_factorial_21 (M : Mem) (s0 : Int32) : Option (Int32) := some s0
set_option maxHeartbeats 4000000 in
set_option maxRecDepth 100000 in
theorem k_X1_factorial_21 {g : GT} {X : XT} {M : Mem} {t : Int32} (C : Cx g X cX1_factorial RX1 1 0) (hr : (xt X).sig.returnType = some .int) (hR : Rt g X (some (.int t)) M) : ∀ (s0 : Int32) (w0 : Option Value), f_X1_factorial_21 M s0 = some t → Kj g X 1 21 [w0] [.int s0] M := by
  intro s0 w0 h
  unfold f_X1_factorial_21 at h
  cases h
  exact kj_iret (pc := 21) C hr hR dX1_factorial_21
def f_X1_factorial_20 (M : Mem) : Option (Int32) := f_X1_factorial_21 M 1
set_option maxHeartbeats 4000000 in
set_option maxRecDepth 100000 in
theorem k_X1_factorial_20 {g : GT} {X : XT} {M : Mem} {t : Int32} (C : Cx g X cX1_factorial RX1 1 0) (hr : (xt X).sig.returnType = some .int) (hR : Rt g X (some (.int t)) M) : ∀ (w0 : Option Value), f_X1_factorial_20 M = some t → Kj g X 1 20 [w0] [] M := by
  intro w0 h
  unfold f_X1_factorial_20 at h
  refine kj_iconst (pc := 20) C (v := 1) dX1_factorial_20 ci_1 ?_
  exact k_X1_factorial_21 C hr hR _ _ h
def f_X1_factorial (v0 : Int32) (M : Mem) : Option (Int32) := if v0 < 0 then f_X1_factorial_20 M else if 7 ≤ v0 then f_X1_factorial_20 M else if ¬ (v0 < 0 ∨ 7 ≤ v0.toNatClampNeg) then f_X1_factorial_21 M (facs v0.toNatClampNeg) else none
set_option maxHeartbeats 4000000 in
set_option maxRecDepth 100000 in
theorem ct_X1_factorial {g : GT} {l : Launch} {v0 : Int32} {M : Mem} {t : Int32} (h : f_X1_factorial v0 M = some t) : Ct g l 0 yX1_factorial cX1_factorial 1 (some .int) [.int v0] M (some (.int t)) M := by
  refine ct_of (k := 0) (by decide) (Nat.le_of_ble_eq_true rfl) rfl (fun X C hl hr hR => ?_)
  subst hl
  have C : Cx g X cX1_factorial RX1 1 0 := C
  unfold f_X1_factorial at h
  refine kj_ild0 (pc := 0) C dX1_factorial_0 ?_
  refine kj_if_lt (pc := 1) C dX1_factorial_1 (tgt := 20) (by decide) (fun c1 => ?_) (fun c1 => ?_)
  · have h := of_pos c1 h
    exact k_X1_factorial_20 C hr hR  _ h
  · have h := of_neg c1 h
    refine kj_ild0 (pc := 4) C dX1_factorial_4 ?_
    refine kj_facs (pc := 5) C fl_X1_78 dX1_factorial_5 ?_
    refine kj_faclen (pc := 8) C dX1_factorial_8 ?_
    refine kj_icmp_ge (pc := 9) C dX1_factorial_9 (tgt := 20) (by decide) (fun c2 => ?_) (fun c2 => ?_)
    · have h := of_pos c2 h
      exact k_X1_factorial_20 C hr hR  _ h
    · have h := of_neg c2 h
      refine kj_facs (pc := 12) C fl_X1_78 dX1_factorial_12 ?_
      refine kj_ild0 (pc := 15) C dX1_factorial_15 ?_
      obtain ⟨c3, h⟩ := of_gd h
      refine kj_facld (pc := 16) C c3 dX1_factorial_16 ?_
      refine kj_goto (pc := 17) C dX1_factorial_17 (tgt := 21) (by decide) ?_
      exact k_X1_factorial_21 C hr hR _ _ h
def f_X1_ordersOf (v1 : Int32) (M : Mem) : Option (Int32) := (f_X1_factorial (v1 - (1 : Int32)) M).bind (fun q1 => (f_X1_factorial ((M.1 19 0 3) - v1) M).bind (fun q2 => some (q1 * q2)))
set_option maxHeartbeats 4000000 in
set_option maxRecDepth 100000 in
theorem ct_X1_ordersOf {g : GT} {l : Launch} {v1 : Int32} {M : Mem} {t : Int32} (h : f_X1_ordersOf v1 M = some t) : Ct g l 1 yX1_ordersOf cX1_ordersOf 2 (some .int) [.ref (ga g 25 0), .int v1] M (some (.int t)) M := by
  refine ct_of (k := 0) (by decide) (Nat.le_of_ble_eq_true rfl) rfl (fun X C hl hr hR => ?_)
  subst hl
  have C : Cx g X cX1_ordersOf RX1 2 1 := C
  unfold f_X1_ordersOf at h
  refine kj_ild1 (pc := 0) C dX1_ordersOf_0 ?_
  refine kj_iconst (pc := 1) C (v := 1) dX1_ordersOf_1 ci_1 ?_
  refine kj_isub (pc := 2) C dX1_ordersOf_2 ?_
  obtain ⟨q1, eq1, h⟩ := of_bind h
  refine kj_callS1 (pc := 3) C (ct_X1_factorial eq1) (Nat.le_of_ble_eq_true rfl) mi_X1_factorial ml_X1_71 rfl as1 (Nat.le_of_ble_eq_true rfl) dX1_ordersOf_3 ?_
  refine kj_ald0 (pc := 6) C dX1_ordersOf_6 ?_
  refine gf_X1_21 (pc := 7) C dX1_ordersOf_7 ?_
  refine gf_X1_68 (pc := 10) C dX1_ordersOf_10 ?_
  refine kj_ild1 (pc := 13) C dX1_ordersOf_13 ?_
  refine kj_isub (pc := 14) C dX1_ordersOf_14 ?_
  obtain ⟨q2, eq2, h⟩ := of_bind h
  refine kj_callS1 (pc := 15) C (ct_X1_factorial eq2) (Nat.le_of_ble_eq_true rfl) mi_X1_factorial ml_X1_71 rfl as1 (Nat.le_of_ble_eq_true rfl) dX1_ordersOf_15 ?_
  refine kj_imul (pc := 18) C dX1_ordersOf_18 ?_
  cases h
  exact kj_iret (pc := 19) C hr hR dX1_ordersOf_19
def f_X4_everybody (M : Mem) : Option (Int32) := some (((1 : Int32) <<< ((M.1 19 0 3) &&& 31)) - (1 : Int32))
set_option maxHeartbeats 4000000 in
set_option maxRecDepth 100000 in
theorem ct_X4_everybody {g : GT} {l : Launch} {M : Mem} {t : Int32} (h : f_X4_everybody M = some t) : Ct g l 0 yX4_everybody cX4_everybody 1 (some .int) [.ref (ga g 19 0)] M (some (.int t)) M := by
  refine ct_of (k := 0) (by decide) (Nat.le_of_ble_eq_true rfl) rfl (fun X C hl hr hR => ?_)
  subst hl
  have C : Cx g X cX4_everybody RX4 1 0 := C
  unfold f_X4_everybody at h
  refine kj_iconst (pc := 0) C (v := 1) dX4_everybody_0 ci_1 ?_
  refine kj_ald0 (pc := 1) C dX4_everybody_1 ?_
  refine gf_X4_21 (pc := 2) C dX4_everybody_2 ?_
  refine kj_ishl (pc := 5) C dX4_everybody_5 ?_
  refine kj_iconst (pc := 6) C (v := 1) dX4_everybody_6 ci_1 ?_
  refine kj_isub (pc := 7) C dX4_everybody_7 ?_
  cases h
  exact kj_iret (pc := 8) C hr hR dX4_everybody_8
def f_X9_greatestDivisor_34 (M : Mem) (v2 : Int32) : Option (Int32) := some v2
set_option maxHeartbeats 4000000 in
set_option maxRecDepth 100000 in
theorem k_X9_greatestDivisor_34 {g : GT} {X : XT} {M : Mem} {t : Int32} (C : Cx g X cX9_greatestDivisor RX9 6 0) (hr : (xt X).sig.returnType = some .int) (hR : Rt g X (some (.int t)) M) : ∀ (v2 : Int32) (w0 w1 w3 w4 w5 : Option Value), f_X9_greatestDivisor_34 M v2 = some t → Kj g X 6 34 [w0, w1, some (.int v2), w3, w4, w5] [] M := by
  intro v2 w0 w1 w3 w4 w5 h
  unfold f_X9_greatestDivisor_34 at h
  refine kj_ild2 (pc := 34) C dX9_greatestDivisor_34 ?_
  cases h
  exact kj_iret (pc := 35) C hr hR dX9_greatestDivisor_35
def f_X9_greatestDivisor_7 (M : Mem) (n : Nat) (v2 : Int32) (v3 : Int32) (v4 : Int32) : Option (Int32) := match n with
  | 0 => none
  | n + 1 => if 64 ≤ v4 then f_X9_greatestDivisor_34 M v2 else if v3 = 0 then f_X9_greatestDivisor_34 M v2 else if ¬ v3 = 0 then lt_ (v2 - v2 / v3 * v3) (fun x4 => lt_ (v4 + 1) (fun x5 => f_X9_greatestDivisor_7 M n v3 x4 x5)) else none
set_option maxHeartbeats 4000000 in
set_option maxRecDepth 100000 in
theorem k_X9_greatestDivisor_7 {g : GT} {X : XT} {M : Mem} {t : Int32} (C : Cx g X cX9_greatestDivisor RX9 6 0) (hr : (xt X).sig.returnType = some .int) (hR : Rt g X (some (.int t)) M) (n : Nat) : ∀ (v2 : Int32) (v3 : Int32) (v4 : Int32) (w0 w1 w5 : Option Value), f_X9_greatestDivisor_7 M n v2 v3 v4 = some t → Kj g X 6 7 [w0, w1, some (.int v2), some (.int v3), some (.int v4), w5] [] M := by
  induction n with
  | zero => intro v2 v3 v4 w0 w1 w5 h; rw [f_X9_greatestDivisor_7] at h; cases h
  | succ n ih =>
    intro v2 v3 v4 w0 w1 w5 h
    rw [f_X9_greatestDivisor_7] at h
    refine kj_ild4 (pc := 7) C dX9_greatestDivisor_7 ?_
    refine kj_bipush (pc := 9) C (v := 64) dX9_greatestDivisor_9 cb_64 ?_
    refine kj_icmp_ge (pc := 11) C dX9_greatestDivisor_11 (tgt := 34) (by decide) (fun c1 => ?_) (fun c1 => ?_)
    · have h := of_pos c1 h
      exact k_X9_greatestDivisor_34 C hr hR _ _ _ _ _ _ h
    · have h := of_neg c1 h
      refine kj_ild3 (pc := 14) C dX9_greatestDivisor_14 ?_
      refine kj_if_eq (pc := 15) C dX9_greatestDivisor_15 (tgt := 34) (by decide) (fun c2 => ?_) (fun c2 => ?_)
      · have h := of_pos c2 h
        exact k_X9_greatestDivisor_34 C hr hR _ _ _ _ _ _ h
      · have h := of_neg c2 h
        refine kj_ild2 (pc := 18) C dX9_greatestDivisor_18 ?_
        refine kj_ild3 (pc := 19) C dX9_greatestDivisor_19 ?_
        obtain ⟨c3, h⟩ := of_gd h
        refine kj_irem (pc := 20) C dX9_greatestDivisor_20 c3 ?_
        obtain ⟨x4, ex4, h⟩ := of_lt h
        refine kj_ni ex4 ?_
        refine kj_ist5 (pc := 21) C dX9_greatestDivisor_21 (Nat.le_of_ble_eq_true rfl) rfl ?_
        refine kj_ild3 (pc := 23) C dX9_greatestDivisor_23 ?_
        refine kj_ist2w (pc := 24) C dX9_greatestDivisor_24 (Nat.le_of_ble_eq_true rfl) ?_
        refine kj_ild5 (pc := 25) C dX9_greatestDivisor_25 ?_
        refine kj_ist3 (pc := 27) C dX9_greatestDivisor_27 (Nat.le_of_ble_eq_true rfl) rfl ?_
        obtain ⟨x5, ex5, h⟩ := of_lt h
        refine kj_iinc4 (pc := 28) C (v := x5) dX9_greatestDivisor_28 (Nat.le_of_ble_eq_true rfl) rfl (by rw [ex5, ci_1]) ?_
        refine kj_goto (pc := 31) C dX9_greatestDivisor_31 (tgt := 7) (by decide) ?_
        exact ih _ _ _ _ _ _ h
def f_X9_greatestDivisor (v0 : Int32) (v1 : Int32) (M : Mem) : Option (Int32) := f_X9_greatestDivisor_7 M 100 v0 v1 0
set_option maxHeartbeats 4000000 in
set_option maxRecDepth 100000 in
theorem ct_X9_greatestDivisor {g : GT} {l : Launch} {v0 : Int32} {v1 : Int32} {M : Mem} {t : Int32} (h : f_X9_greatestDivisor v0 v1 M = some t) : Ct g l 0 yX9_greatestDivisor cX9_greatestDivisor 6 (some .int) [.int v0, .int v1] M (some (.int t)) M := by
  refine ct_of (k := 4) (by decide) (Nat.le_of_ble_eq_true rfl) rfl (fun X C hl hr hR => ?_)
  subst hl
  have C : Cx g X cX9_greatestDivisor RX9 6 0 := C
  unfold f_X9_greatestDivisor at h
  refine kj_ild0 (pc := 0) C dX9_greatestDivisor_0 ?_
  refine kj_ist2 (pc := 1) C dX9_greatestDivisor_1 (Nat.le_of_ble_eq_true rfl) rfl ?_
  refine kj_ild1 (pc := 2) C dX9_greatestDivisor_2 ?_
  refine kj_ist3 (pc := 3) C dX9_greatestDivisor_3 (Nat.le_of_ble_eq_true rfl) rfl ?_
  refine kj_iconst (pc := 4) C (v := 0) dX9_greatestDivisor_4 ci_0 ?_
  refine kj_ist4 (pc := 5) C dX9_greatestDivisor_5 (Nat.le_of_ble_eq_true rfl) rfl ?_
  exact k_X9_greatestDivisor_7 C hr hR 100 _ _ _ _ _ _ h
def f_X9_sideOfFraction_28 (M : Mem) (s0 : Int32) : Option (Int32) := some s0
set_option maxHeartbeats 4000000 in
set_option maxRecDepth 100000 in
theorem k_X9_sideOfFraction_28 {g : GT} {X : XT} {M : Mem} {t : Int32} (C : Cx g X cX9_sideOfFraction RX9 4 1) (hr : (xt X).sig.returnType = some .int) (hR : Rt g X (some (.int t)) M) : ∀ (s0 : Int32) (w0 w1 w2 w3 : Option Value), f_X9_sideOfFraction_28 M s0 = some t → Kj g X 4 28 [w0, w1, w2, w3] [.int s0] M := by
  intro s0 w0 w1 w2 w3 h
  unfold f_X9_sideOfFraction_28 at h
  cases h
  exact kj_iret (pc := 28) C hr hR dX9_sideOfFraction_28
def f_X9_sideOfFraction (v0 : Int32) (v1 : Int32) (v2 : Int32) (M : Mem) : Option (Int32) := lt_ (if 0 ≤ v0 then v0 else 0 - v0) (fun x1 => (f_X9_greatestDivisor x1 v1 M).bind (fun q2 => if q2 = 0 then some (0 : Int32) else if v2 = 0 then if ¬ q2 = 0 then f_X9_sideOfFraction_28 M (v1 / q2) else none else if ¬ q2 = 0 then f_X9_sideOfFraction_28 M (v0 / q2) else none))
set_option maxHeartbeats 4000000 in
set_option maxRecDepth 100000 in
theorem ct_X9_sideOfFraction {g : GT} {l : Launch} {v0 : Int32} {v1 : Int32} {v2 : Int32} {M : Mem} {t : Int32} (h : f_X9_sideOfFraction v0 v1 v2 M = some t) : Ct g l 1 yX9_sideOfFraction cX9_sideOfFraction 4 (some .int) [.int v0, .int v1, .int v2] M (some (.int t)) M := by
  refine ct_of (k := 1) (by decide) (Nat.le_of_ble_eq_true rfl) rfl (fun X C hl hr hR => ?_)
  subst hl
  have C : Cx g X cX9_sideOfFraction RX9 4 1 := C
  unfold f_X9_sideOfFraction at h
  refine kj_ild0 (pc := 0) C dX9_sideOfFraction_0 ?_
  obtain ⟨x1, ex1, h⟩ := of_lt h
  refine kj_mabs2 (pc := 1) C ml_X9_251 (Nat.le_of_ble_eq_true rfl) dX9_sideOfFraction_1 ?_
  refine kj_ni ex1 ?_
  refine kj_ild1 (pc := 4) C dX9_sideOfFraction_4 ?_
  obtain ⟨q2, eq2, h⟩ := of_bind h
  refine kj_callS1 (pc := 5) C (ct_X9_greatestDivisor eq2) (Nat.le_of_ble_eq_true rfl) mi_X9_greatestDivisor ml_X9_256 rfl as2 (Nat.le_of_ble_eq_true rfl) dX9_sideOfFraction_5 ?_
  refine kj_ist3 (pc := 8) C dX9_sideOfFraction_8 (Nat.le_of_ble_eq_true rfl) rfl ?_
  refine kj_ild3 (pc := 9) C dX9_sideOfFraction_9 ?_
  refine kj_if_ne (pc := 10) C dX9_sideOfFraction_10 (tgt := 15) (by decide) (fun c3 => ?_) (fun c3 => ?_)
  · have h := of_neg c3 h
    refine kj_ild2 (pc := 15) C dX9_sideOfFraction_15 ?_
    refine kj_if_eq (pc := 16) C dX9_sideOfFraction_16 (tgt := 25) (by decide) (fun c4 => ?_) (fun c4 => ?_)
    · have h := of_pos c4 h
      refine kj_ild1 (pc := 25) C dX9_sideOfFraction_25 ?_
      refine kj_ild3 (pc := 26) C dX9_sideOfFraction_26 ?_
      obtain ⟨c5, h⟩ := of_gd h
      refine kj_idiv (pc := 27) C dX9_sideOfFraction_27 c5 ?_
      exact k_X9_sideOfFraction_28 C hr hR _ _ _ _ _ h
    · have h := of_neg c4 h
      refine kj_ild0 (pc := 19) C dX9_sideOfFraction_19 ?_
      refine kj_ild3 (pc := 20) C dX9_sideOfFraction_20 ?_
      obtain ⟨c6, h⟩ := of_gd h
      refine kj_idiv (pc := 21) C dX9_sideOfFraction_21 c6 ?_
      refine kj_goto (pc := 22) C dX9_sideOfFraction_22 (tgt := 28) (by decide) ?_
      exact k_X9_sideOfFraction_28 C hr hR _ _ _ _ _ h
  · have h := of_pos c3 h
    refine kj_iconst (pc := 13) C (v := 0) dX9_sideOfFraction_13 ci_0 ?_
    cases h
    exact kj_iret (pc := 14) C hr hR dX9_sideOfFraction_14
