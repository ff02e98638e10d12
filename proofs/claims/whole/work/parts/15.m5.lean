def f_X10_in_18 (M : Mem) (s0 : Int32) : Option (Int32) := if s0 = 0 ∨ s0 = 1 then some s0 else none
set_option maxHeartbeats 4000000 in
set_option maxRecDepth 100000 in
theorem k_X10_in_18 {g : GT} {X : XT} {M : Mem} {t : Int32} (C : Cx g X cX10_in RX10 6 0) (hr : (xt X).sig.returnType = some .boolean) (hR : Rt g X (some (.int t)) M) : ∀ (s0 : Int32) (w0 w1 w2 w3 w4 w5 : Option Value), f_X10_in_18 M s0 = some t → Kj g X 6 18 [w0, w1, w2, w3, w4, w5] [.int s0] M := by
  intro s0 w0 w1 w2 w3 w4 w5 h
  unfold f_X10_in_18 at h
  obtain ⟨c1, h⟩ := of_gd h
  cases h
  exact kj_zret (pc := 18) C hr c1 hR dX10_in_18
def f_X10_in_17 (M : Mem) : Option (Int32) := f_X10_in_18 M 0
set_option maxHeartbeats 4000000 in
set_option maxRecDepth 100000 in
theorem k_X10_in_17 {g : GT} {X : XT} {M : Mem} {t : Int32} (C : Cx g X cX10_in RX10 6 0) (hr : (xt X).sig.returnType = some .boolean) (hR : Rt g X (some (.int t)) M) : ∀ (w0 w1 w2 w3 w4 w5 : Option Value), f_X10_in_17 M = some t → Kj g X 6 17 [w0, w1, w2, w3, w4, w5] [] M := by
  intro w0 w1 w2 w3 w4 w5 h
  unfold f_X10_in_17 at h
  refine kj_iconst (pc := 17) C (v := 0) dX10_in_17 ci_0 ?_
  exact k_X10_in_18 C hr hR _ _ _ _ _ _ _ h
def f_X10_in (v0 : Int64) (v2 : Int64) (v4 : Int64) (M : Mem) : Option (Int32) := if (lg_cmp v0 v2) < 0 then f_X10_in_17 M else if 0 < (lg_cmp v0 v4) then f_X10_in_17 M else f_X10_in_18 M 1
set_option maxHeartbeats 4000000 in
set_option maxRecDepth 100000 in
theorem ct_X10_in {g : GT} {l : Launch} {v0 : Int64} {v2 : Int64} {v4 : Int64} {M : Mem} {t : Int32} (h : f_X10_in v0 v2 v4 M = some t) : Ct g l 0 yX10_in cX10_in 6 (some .boolean) [.long v0, .long v2, .long v4] M (some (.int t)) M := by
  refine ct_of (k := 0) (by decide) (Nat.le_of_ble_eq_true rfl) rfl (fun X C hl hr hR => ?_)
  subst hl
  have C : Cx g X cX10_in RX10 6 0 := C
  unfold f_X10_in at h
  refine kj_lld0 (pc := 0) C dX10_in_0 ?_
  refine kj_lld2 (pc := 1) C dX10_in_1 ?_
  refine kj_lcmp (pc := 2) C dX10_in_2 ?_
  refine kj_if_lt (pc := 3) C dX10_in_3 (tgt := 17) (by decide) (fun c1 => ?_) (fun c1 => ?_)
  · have h := of_pos c1 h
    exact k_X10_in_17 C hr hR  _ _ _ _ _ _ h
  · have h := of_neg c1 h
    refine kj_lld0 (pc := 6) C dX10_in_6 ?_
    refine kj_lld4 (pc := 7) C dX10_in_7 ?_
    refine kj_lcmp (pc := 9) C dX10_in_9 ?_
    refine kj_if_gt (pc := 10) C dX10_in_10 (tgt := 17) (by decide) (fun c2 => ?_) (fun c2 => ?_)
    · have h := of_pos c2 h
      exact k_X10_in_17 C hr hR  _ _ _ _ _ _ h
    · have h := of_neg c2 h
      refine kj_iconst (pc := 13) C (v := 1) dX10_in_13 ci_1 ?_
      refine kj_goto (pc := 14) C dX10_in_14 (tgt := 18) (by decide) ?_
      exact k_X10_in_18 C hr hR _ _ _ _ _ _ _ h
def f_X10_has_14 (M : Mem) (s0 : Int32) : Option (Int32) := if s0 = 0 ∨ s0 = 1 then some s0 else none
set_option maxHeartbeats 4000000 in
set_option maxRecDepth 100000 in
theorem k_X10_has_14 {g : GT} {X : XT} {M : Mem} {t : Int32} (C : Cx g X cX10_has RX10 2 0) (hr : (xt X).sig.returnType = some .boolean) (hR : Rt g X (some (.int t)) M) : ∀ (s0 : Int32) (w0 w1 : Option Value), f_X10_has_14 M s0 = some t → Kj g X 2 14 [w0, w1] [.int s0] M := by
  intro s0 w0 w1 h
  unfold f_X10_has_14 at h
  obtain ⟨c1, h⟩ := of_gd h
  cases h
  exact kj_zret (pc := 14) C hr c1 hR dX10_has_14
def f_X10_has (v0 : Int32) (v1 : Int32) (M : Mem) : Option (Int32) := if ((v0 >>> (v1 &&& 31)) &&& (1 : Int32)) = 1 then f_X10_has_14 M 1 else f_X10_has_14 M 0
set_option maxHeartbeats 4000000 in
set_option maxRecDepth 100000 in
theorem ct_X10_has {g : GT} {l : Launch} {v0 : Int32} {v1 : Int32} {M : Mem} {t : Int32} (h : f_X10_has v0 v1 M = some t) : Ct g l 0 yX10_has cX10_has 2 (some .boolean) [.int v0, .int v1] M (some (.int t)) M := by
  refine ct_of (k := 0) (by decide) (Nat.le_of_ble_eq_true rfl) rfl (fun X C hl hr hR => ?_)
  subst hl
  have C : Cx g X cX10_has RX10 2 0 := C
  unfold f_X10_has at h
  refine kj_ild0 (pc := 0) C dX10_has_0 ?_
  refine kj_ild1 (pc := 1) C dX10_has_1 ?_
  refine kj_ishr (pc := 2) C dX10_has_2 ?_
  refine kj_iconst (pc := 3) C (v := 1) dX10_has_3 ci_1 ?_
  refine kj_iand (pc := 4) C dX10_has_4 ?_
  refine kj_iconst (pc := 5) C (v := 1) dX10_has_5 ci_1 ?_
  refine kj_icmp_ne (pc := 6) C dX10_has_6 (tgt := 13) (by decide) (fun c1 => ?_) (fun c1 => ?_)
  · have h := of_neg c1 h
    refine kj_iconst (pc := 13) C (v := 0) dX10_has_13 ci_0 ?_
    exact k_X10_has_14 C hr hR _ _ _ h
  · have h := of_pos c1 h
    refine kj_iconst (pc := 9) C (v := 1) dX10_has_9 ci_1 ?_
    refine kj_goto (pc := 10) C dX10_has_10 (tgt := 14) (by decide) ?_
    exact k_X10_has_14 C hr hR _ _ _ h
def f_X10_ones_4 (M : Mem) (n : Nat) (v0 : Int32) (v1 : Int32) (v2 : Int32) : Option (Int32) := match n with
  | 0 => none
  | n + 1 => if 10 ≤ v2 then some v1 else lt_ (v1 + ((v0 >>> (v2 &&& 31)) &&& (1 : Int32))) (fun x2 => lt_ (v2 + 1) (fun x3 => f_X10_ones_4 M n v0 x2 x3))
set_option maxHeartbeats 4000000 in
set_option maxRecDepth 100000 in
theorem k_X10_ones_4 {g : GT} {X : XT} {M : Mem} {t : Int32} (C : Cx g X cX10_ones RX10 3 0) (hr : (xt X).sig.returnType = some .int) (hR : Rt g X (some (.int t)) M) (n : Nat) : ∀ (v0 : Int32) (v1 : Int32) (v2 : Int32), f_X10_ones_4 M n v0 v1 v2 = some t → Kj g X 3 4 [some (.int v0), some (.int v1), some (.int v2)] [] M := by
  induction n with
  | zero => intro v0 v1 v2 h; rw [f_X10_ones_4] at h; cases h
  | succ n ih =>
    intro v0 v1 v2 h
    rw [f_X10_ones_4] at h
    refine kj_ild2 (pc := 4) C dX10_ones_4 ?_
    refine kj_bipush (pc := 5) C (v := 10) dX10_ones_5 cb_10 ?_
    refine kj_icmp_ge (pc := 7) C dX10_ones_7 (tgt := 24) (by decide) (fun c1 => ?_) (fun c1 => ?_)
    · have h := of_pos c1 h
      refine kj_ild1 (pc := 24) C dX10_ones_24 ?_
      cases h
      exact kj_iret (pc := 25) C hr hR dX10_ones_25
    · have h := of_neg c1 h
      refine kj_ild1 (pc := 10) C dX10_ones_10 ?_
      refine kj_ild0 (pc := 11) C dX10_ones_11 ?_
      refine kj_ild2 (pc := 12) C dX10_ones_12 ?_
      refine kj_ishr (pc := 13) C dX10_ones_13 ?_
      refine kj_iconst (pc := 14) C (v := 1) dX10_ones_14 ci_1 ?_
      refine kj_iand (pc := 15) C dX10_ones_15 ?_
      refine kj_iadd (pc := 16) C dX10_ones_16 ?_
      obtain ⟨x2, ex2, h⟩ := of_lt h
      refine kj_ni ex2 ?_
      refine kj_ist1 (pc := 17) C dX10_ones_17 (Nat.le_of_ble_eq_true rfl) rfl ?_
      obtain ⟨x3, ex3, h⟩ := of_lt h
      refine kj_iinc2 (pc := 18) C (v := x3) dX10_ones_18 (Nat.le_of_ble_eq_true rfl) rfl (by rw [ex3, ci_1]) ?_
      refine kj_goto (pc := 21) C dX10_ones_21 (tgt := 4) (by decide) ?_
      exact ih _ _ _ h
def f_X10_ones (v0 : Int32) (M : Mem) : Option (Int32) := f_X10_ones_4 M 100 v0 0 0
set_option maxHeartbeats 4000000 in
set_option maxRecDepth 100000 in
theorem ct_X10_ones {g : GT} {l : Launch} {v0 : Int32} {M : Mem} {t : Int32} (h : f_X10_ones v0 M = some t) : Ct g l 0 yX10_ones cX10_ones 3 (some .int) [.int v0] M (some (.int t)) M := by
  refine ct_of (k := 2) (by decide) (Nat.le_of_ble_eq_true rfl) rfl (fun X C hl hr hR => ?_)
  subst hl
  have C : Cx g X cX10_ones RX10 3 0 := C
  unfold f_X10_ones at h
  refine kj_iconst (pc := 0) C (v := 0) dX10_ones_0 ci_0 ?_
  refine kj_ist1 (pc := 1) C dX10_ones_1 (Nat.le_of_ble_eq_true rfl) rfl ?_
  refine kj_iconst (pc := 2) C (v := 0) dX10_ones_2 ci_0 ?_
  refine kj_ist2 (pc := 3) C dX10_ones_3 (Nat.le_of_ble_eq_true rfl) rfl ?_
  exact k_X10_ones_4 C hr hR 100 _ _ _ h
def f_X10_write (v1 : Int32) (M : Mem) : Option (Int32 × Mem) := (f_X10_in v1.toInt64 0 255 M).bind (fun q1 => if q1 = 0 then some (((-2) : Int32), M) else if (M.1 27 0 9) = 48 then some (((-4) : Int32), M) else lt_ (M.1 27 0 9) (fun x5 => if ¬ (x5 < 0 ∨ 48 ≤ x5.toNatClampNeg) then lt_ (sw M 27 6 x5.toNatClampNeg v1) (fun M6 => lt_ (sw M6 27 0 9 ((M6.1 27 0 9) + (1 : Int32))) (fun M7 => some (M7.1 27 0 9, M7))) else none))
set_option maxHeartbeats 4000000 in
set_option maxRecDepth 100000 in
theorem ct_X10_write {g : GT} {l : Launch} {v1 : Int32} {M : Mem} {t : Int32 × Mem} (h : f_X10_write v1 M = some t) : Ct g l 1 yX10_write cX10_write 2 (some .int) [.ref (ga g 27 0), .int v1] M (some (.int t.1)) t.2 := by
  refine ct_of (k := 0) (by decide) (Nat.le_of_ble_eq_true rfl) rfl (fun X C hl hr hR => ?_)
  subst hl
  have C : Cx g X cX10_write RX10 2 1 := C
  unfold f_X10_write at h
  refine kj_ild1 (pc := 0) C dX10_write_0 ?_
  refine kj_i2l (pc := 1) C dX10_write_1 ?_
  refine kj_lconst (pc := 2) C (v := 0) dX10_write_2 cl_0 ?_
  refine kj_ldc2 (pc := 3) C cn_X10_57 dX10_write_3 ?_
  obtain ⟨q1, eq1, h⟩ := of_bind h
  refine kj_callS1 (pc := 6) C (ct_X10_in eq1) (Nat.le_of_ble_eq_true rfl) mi_X10_in ml_X10_59 rfl as3 (Nat.le_of_ble_eq_true rfl) dX10_write_6 ?_
  refine kj_if_ne (pc := 9) C dX10_write_9 (tgt := 15) (by decide) (fun c2 => ?_) (fun c2 => ?_)
  · have h := of_neg c2 h
    refine kj_ald0 (pc := 15) C dX10_write_15 ?_
    refine gf_X10_63 (pc := 16) C dX10_write_16 ?_
    refine kj_bipush (pc := 19) C (v := 48) dX10_write_19 cb_48 ?_
    refine kj_icmp_ne (pc := 21) C dX10_write_21 (tgt := 27) (by decide) (fun c3 => ?_) (fun c3 => ?_)
    · have h := of_neg c3 h
      refine kj_ald0 (pc := 27) C dX10_write_27 ?_
      refine gf_X10_25 (pc := 28) C dX10_write_28 ?_
      refine kj_ald0 (pc := 31) C dX10_write_31 ?_
      refine gf_X10_63 (pc := 32) C dX10_write_32 ?_
      refine kj_ild1 (pc := 35) C dX10_write_35 ?_
      obtain ⟨x5, ex5, h⟩ := of_lt h
      refine kj_ni2 ex5 ?_
      obtain ⟨c4, h⟩ := of_gd h
      obtain ⟨M6, eM6, h⟩ := of_lt h
      refine kj_iast2 (pc := 36) C ia_27_6 c4 dX10_write_36 ?_
      refine kj_nM eM6 ?_
      refine kj_ald0 (pc := 37) C dX10_write_37 ?_
      refine kj_dup (pc := 38) C dX10_write_38 rfl ?_
      refine gf_X10_63 (pc := 39) C dX10_write_39 ?_
      refine kj_iconst (pc := 42) C (v := 1) dX10_write_42 ci_1 ?_
      refine kj_iadd (pc := 43) C dX10_write_43 ?_
      obtain ⟨M7, eM7, h⟩ := of_lt h
      refine pf_X10_63 (pc := 44) C dX10_write_44 ?_
      refine kj_nM eM7 ?_
      refine kj_ald0 (pc := 47) C dX10_write_47 ?_
      refine gf_X10_63 (pc := 48) C dX10_write_48 ?_
      cases h
      exact kj_iret (pc := 51) C hr hR dX10_write_51
    · have h := of_pos c3 h
      refine kj_bipush (pc := 24) C (v := (-4)) dX10_write_24 cb_m4 ?_
      cases h
      exact kj_iret (pc := 26) C hr hR dX10_write_26
  · have h := of_pos c2 h
    refine kj_bipush (pc := 12) C (v := (-2)) dX10_write_12 cb_m2 ?_
    cases h
    exact kj_iret (pc := 14) C hr hR dX10_write_14
def f_X10_wipe (M : Mem) : Option (Int32 × Mem) := lt_ (M.1 27 0 9) (fun x1 => lt_ (sw M 27 0 9 0) (fun M2 => some (x1, M2)))
set_option maxHeartbeats 4000000 in
set_option maxRecDepth 100000 in
theorem ct_X10_wipe {g : GT} {l : Launch} {M : Mem} {t : Int32 × Mem} (h : f_X10_wipe M = some t) : Ct g l 0 yX10_wipe cX10_wipe 2 (some .int) [.ref (ga g 27 0)] M (some (.int t.1)) t.2 := by
  refine ct_of (k := 1) (by decide) (Nat.le_of_ble_eq_true rfl) rfl (fun X C hl hr hR => ?_)
  subst hl
  have C : Cx g X cX10_wipe RX10 2 0 := C
  unfold f_X10_wipe at h
  refine kj_ald0 (pc := 0) C dX10_wipe_0 ?_
  refine gf_X10_63 (pc := 1) C dX10_wipe_1 ?_
  obtain ⟨x1, ex1, h⟩ := of_lt h
  refine kj_ni ex1 ?_
  refine kj_ist1 (pc := 4) C dX10_wipe_4 (Nat.le_of_ble_eq_true rfl) rfl ?_
  refine kj_ald0 (pc := 5) C dX10_wipe_5 ?_
  refine kj_iconst (pc := 6) C (v := 0) dX10_wipe_6 ci_0 ?_
  obtain ⟨M2, eM2, h⟩ := of_lt h
  refine pf_X10_63 (pc := 7) C dX10_wipe_7 ?_
  refine kj_nM eM2 ?_
  refine kj_ild1 (pc := 10) C dX10_wipe_10 ?_
  cases h
  exact kj_iret (pc := 11) C hr hR dX10_wipe_11
def f_X10_figureOf_92 (s1 : Int32) (M : Mem) : Option (Int32 × Mem) := lt_ (sw M 27 0 11 s1) (fun M1 => some ((0 : Int32), M1))
set_option maxHeartbeats 4000000 in
set_option maxRecDepth 100000 in
theorem k_X10_figureOf_92 {g : GT} {X : XT} {t : Int32 × Mem} (C : Cx g X cX10_figureOf RX10 4 1) (hr : (xt X).sig.returnType = some .int) (hR : Rt g X (some (.int t.1)) t.2) : ∀ (s1 : Int32) (M : Mem) (w0 w1 w2 w3 : Option Value), f_X10_figureOf_92 s1 M = some t → Kj g X 4 92 [w0, w1, w2, w3] [.int s1, .ref (ga g 27 0)] M := by
  intro s1 M w0 w1 w2 w3 h
  unfold f_X10_figureOf_92 at h
  obtain ⟨M1, eM1, h⟩ := of_lt h
  refine pf_X10_66 (pc := 92) C dX10_figureOf_92 ?_
  refine kj_nM eM1 ?_
  refine kj_iconst (pc := 95) C (v := 0) dX10_figureOf_95 ci_0 ?_
  cases h
  exact kj_iret (pc := 96) C hr hR dX10_figureOf_96
def f_X10_figureOf_71 (M : Mem) : Option (Int32 × Mem) := if (M.1 27 0 11) = (-9) then f_X10_figureOf_92 (M.1 27 0 10) M else f_X10_figureOf_92 (M.1 27 0 11) M
set_option maxHeartbeats 4000000 in
set_option maxRecDepth 100000 in
theorem k_X10_figureOf_71 {g : GT} {X : XT} {t : Int32 × Mem} (C : Cx g X cX10_figureOf RX10 4 1) (hr : (xt X).sig.returnType = some .int) (hR : Rt g X (some (.int t.1)) t.2) : ∀ (M : Mem) (w1 w2 w3 : Option Value), f_X10_figureOf_71 M = some t → Kj g X 4 71 [some (.ref (ga g 27 0)), w1, w2, w3] [] M := by
  intro M w1 w2 w3 h
  unfold f_X10_figureOf_71 at h
  refine kj_ald0 (pc := 71) C dX10_figureOf_71 ?_
  refine kj_ald0 (pc := 72) C dX10_figureOf_72 ?_
  refine gf_X10_66 (pc := 73) C dX10_figureOf_73 ?_
  refine kj_bipush (pc := 76) C (v := (-9)) dX10_figureOf_76 cb_m9 ?_
  refine kj_icmp_ne (pc := 78) C dX10_figureOf_78 (tgt := 88) (by decide) (fun c1 => ?_) (fun c1 => ?_)
  · have h := of_neg c1 h
    refine kj_ald0 (pc := 88) C dX10_figureOf_88 ?_
    refine gf_X10_66 (pc := 89) C dX10_figureOf_89 ?_
    exact k_X10_figureOf_92 C hr hR _ _ _ _ _ _ h
  · have h := of_pos c1 h
    refine kj_ald0 (pc := 81) C dX10_figureOf_81 ?_
    refine gf_X10_69 (pc := 82) C dX10_figureOf_82 ?_
    refine kj_goto (pc := 85) C dX10_figureOf_85 (tgt := 92) (by decide) ?_
    exact k_X10_figureOf_92 C hr hR _ _ _ _ _ _ h
def f_X10_figureOf_46 (v1 : Int32) (v2 : Int32) (s0 : Int32) (M : Mem) : Option (Int32 × Mem) := if v2 = 0 then f_X10_figureOf_71 M else (f_X10_in s0.toInt64 0 9 M).bind (fun q2 => if q2 = 0 then f_X10_figureOf_71 M else (f_X10_has v1 s0 M).bind (fun q4 => if q4 = 0 then f_X10_figureOf_71 M else lt_ (sw M 27 0 10 ((M.1 27 0 10) + (1 : Int32))) (fun M6 => some (s0, M6))))
set_option maxHeartbeats 4000000 in
set_option maxRecDepth 100000 in
theorem k_X10_figureOf_46 {g : GT} {X : XT} {t : Int32 × Mem} (C : Cx g X cX10_figureOf RX10 4 1) (hr : (xt X).sig.returnType = some .int) (hR : Rt g X (some (.int t.1)) t.2) : ∀ (v1 : Int32) (v2 : Int32) (s0 : Int32) (M : Mem) (w3 : Option Value), f_X10_figureOf_46 v1 v2 s0 M = some t → Kj g X 4 46 [some (.ref (ga g 27 0)), some (.int v1), some (.int v2), w3] [.int s0] M := by
  intro v1 v2 s0 M w3 h
  unfold f_X10_figureOf_46 at h
  refine kj_ist3 (pc := 46) C dX10_figureOf_46 (Nat.le_of_ble_eq_true rfl) rfl ?_
  refine kj_ild2 (pc := 47) C dX10_figureOf_47 ?_
  refine kj_if_eq (pc := 48) C dX10_figureOf_48 (tgt := 71) (by decide) (fun c1 => ?_) (fun c1 => ?_)
  · have h := of_pos c1 h
    exact k_X10_figureOf_71 C hr hR  _ _ _ _ h
  · have h := of_neg c1 h
    refine kj_ild3 (pc := 51) C dX10_figureOf_51 ?_
    refine kj_i2l (pc := 52) C dX10_figureOf_52 ?_
    refine kj_lconst (pc := 53) C (v := 0) dX10_figureOf_53 cl_0 ?_
    refine kj_ldc2 (pc := 54) C cn_X10_72 dX10_figureOf_54 ?_
    obtain ⟨q2, eq2, h⟩ := of_bind h
    refine kj_callS1 (pc := 57) C (ct_X10_in eq2) (Nat.le_of_ble_eq_true rfl) mi_X10_in ml_X10_59 rfl as3 (Nat.le_of_ble_eq_true rfl) dX10_figureOf_57 ?_
    refine kj_if_eq (pc := 60) C dX10_figureOf_60 (tgt := 71) (by decide) (fun c3 => ?_) (fun c3 => ?_)
    · have h := of_pos c3 h
      exact k_X10_figureOf_71 C hr hR  _ _ _ _ h
    · have h := of_neg c3 h
      refine kj_ild1 (pc := 63) C dX10_figureOf_63 ?_
      refine kj_ild3 (pc := 64) C dX10_figureOf_64 ?_
      obtain ⟨q4, eq4, h⟩ := of_bind h
      refine kj_callS1 (pc := 65) C (ct_X10_has eq4) (Nat.le_of_ble_eq_true rfl) mi_X10_has ml_X10_74 rfl as2 (Nat.le_of_ble_eq_true rfl) dX10_figureOf_65 ?_
      refine kj_if_ne (pc := 68) C dX10_figureOf_68 (tgt := 97) (by decide) (fun c5 => ?_) (fun c5 => ?_)
      · have h := of_neg c5 h
        refine kj_ald0 (pc := 97) C dX10_figureOf_97 ?_
        refine kj_dup (pc := 98) C dX10_figureOf_98 rfl ?_
        refine gf_X10_69 (pc := 99) C dX10_figureOf_99 ?_
        refine kj_iconst (pc := 102) C (v := 1) dX10_figureOf_102 ci_1 ?_
        refine kj_iadd (pc := 103) C dX10_figureOf_103 ?_
        obtain ⟨M6, eM6, h⟩ := of_lt h
        refine pf_X10_69 (pc := 104) C dX10_figureOf_104 ?_
        refine kj_nM eM6 ?_
        refine kj_ild3 (pc := 107) C dX10_figureOf_107 ?_
        cases h
        exact kj_iret (pc := 108) C hr hR dX10_figureOf_108
      · have h := of_pos c5 h
        exact k_X10_figureOf_71 C hr hR  _ _ _ _ h
def f_X10_figureOf_25 (v1 : Int32) (s0 : Int32) (M : Mem) : Option (Int32 × Mem) := if s0 = 0 then f_X10_figureOf_46 v1 s0 0 M else lt_ (M.1 27 0 10) (fun x3 => if ¬ (x3 < 0 ∨ 48 ≤ x3.toNatClampNeg) then f_X10_figureOf_46 v1 s0 ((M.1 27 6 x3.toNatClampNeg) - (48 : Int32)) M else none)
set_option maxHeartbeats 4000000 in
set_option maxRecDepth 100000 in
theorem k_X10_figureOf_25 {g : GT} {X : XT} {t : Int32 × Mem} (C : Cx g X cX10_figureOf RX10 4 1) (hr : (xt X).sig.returnType = some .int) (hR : Rt g X (some (.int t.1)) t.2) : ∀ (v1 : Int32) (s0 : Int32) (M : Mem) (w2 w3 : Option Value), f_X10_figureOf_25 v1 s0 M = some t → Kj g X 4 25 [some (.ref (ga g 27 0)), some (.int v1), w2, w3] [.int s0] M := by
  intro v1 s0 M w2 w3 h
  unfold f_X10_figureOf_25 at h
  refine kj_ist2 (pc := 25) C dX10_figureOf_25 (Nat.le_of_ble_eq_true rfl) rfl ?_
  refine kj_ild2 (pc := 26) C dX10_figureOf_26 ?_
  refine kj_if_eq (pc := 27) C dX10_figureOf_27 (tgt := 45) (by decide) (fun c1 => ?_) (fun c1 => ?_)
  · have h := of_pos c1 h
    refine kj_iconst (pc := 45) C (v := 0) dX10_figureOf_45 ci_0 ?_
    exact k_X10_figureOf_46 C hr hR _ _ _ _ _ h
  · have h := of_neg c1 h
    refine kj_ald0 (pc := 30) C dX10_figureOf_30 ?_
    refine gf_X10_25 (pc := 31) C dX10_figureOf_31 ?_
    refine kj_ald0 (pc := 34) C dX10_figureOf_34 ?_
    refine gf_X10_69 (pc := 35) C dX10_figureOf_35 ?_
    obtain ⟨x3, ex3, h⟩ := of_lt h
    refine kj_ni ex3 ?_
    obtain ⟨c2, h⟩ := of_gd h
    refine kj_iald2 (pc := 38) C ia_27_6 c2 dX10_figureOf_38 ?_
    refine kj_bipush (pc := 39) C (v := 48) dX10_figureOf_39 cb_48 ?_
    refine kj_isub (pc := 41) C dX10_figureOf_41 ?_
    refine kj_goto (pc := 42) C dX10_figureOf_42 (tgt := 46) (by decide) ?_
    exact k_X10_figureOf_46 C hr hR _ _ _ _ _ h
def f_X10_figureOf_24 (v1 : Int32) (M : Mem) : Option (Int32 × Mem) := f_X10_figureOf_25 v1 0 M
set_option maxHeartbeats 4000000 in
set_option maxRecDepth 100000 in
theorem k_X10_figureOf_24 {g : GT} {X : XT} {t : Int32 × Mem} (C : Cx g X cX10_figureOf RX10 4 1) (hr : (xt X).sig.returnType = some .int) (hR : Rt g X (some (.int t.1)) t.2) : ∀ (v1 : Int32) (M : Mem) (w2 w3 : Option Value), f_X10_figureOf_24 v1 M = some t → Kj g X 4 24 [some (.ref (ga g 27 0)), some (.int v1), w2, w3] [] M := by
  intro v1 M w2 w3 h
  unfold f_X10_figureOf_24 at h
  refine kj_iconst (pc := 24) C (v := 0) dX10_figureOf_24 ci_0 ?_
  exact k_X10_figureOf_25 C hr hR _ _ _ _ _ h
def f_X10_figureOf (v1 : Int32) (M : Mem) : Option (Int32 × Mem) := if (M.1 27 0 11) = (-9) then if (M.1 27 0 9) ≤ (M.1 27 0 10) then f_X10_figureOf_24 v1 M else f_X10_figureOf_25 v1 1 M else f_X10_figureOf_24 v1 M
set_option maxHeartbeats 4000000 in
set_option maxRecDepth 100000 in
theorem ct_X10_figureOf {g : GT} {l : Launch} {v1 : Int32} {M : Mem} {t : Int32 × Mem} (h : f_X10_figureOf v1 M = some t) : Ct g l 1 yX10_figureOf cX10_figureOf 4 (some .int) [.ref (ga g 27 0), .int v1] M (some (.int t.1)) t.2 := by
  refine ct_of (k := 2) (by decide) (Nat.le_of_ble_eq_true rfl) rfl (fun X C hl hr hR => ?_)
  subst hl
  have C : Cx g X cX10_figureOf RX10 4 1 := C
  unfold f_X10_figureOf at h
  refine kj_ald0 (pc := 0) C dX10_figureOf_0 ?_
  refine gf_X10_66 (pc := 1) C dX10_figureOf_1 ?_
  refine kj_bipush (pc := 4) C (v := (-9)) dX10_figureOf_4 cb_m9 ?_
  refine kj_icmp_ne (pc := 6) C dX10_figureOf_6 (tgt := 24) (by decide) (fun c1 => ?_) (fun c1 => ?_)
  · have h := of_neg c1 h
    exact k_X10_figureOf_24 C hr hR _ _ _ _ h
  · have h := of_pos c1 h
    refine kj_ald0 (pc := 9) C dX10_figureOf_9 ?_
    refine gf_X10_69 (pc := 10) C dX10_figureOf_10 ?_
    refine kj_ald0 (pc := 13) C dX10_figureOf_13 ?_
    refine gf_X10_63 (pc := 14) C dX10_figureOf_14 ?_
    refine kj_icmp_ge (pc := 17) C dX10_figureOf_17 (tgt := 24) (by decide) (fun c2 => ?_) (fun c2 => ?_)
    · have h := of_pos c2 h
      exact k_X10_figureOf_24 C hr hR _ _ _ _ h
    · have h := of_neg c2 h
      refine kj_iconst (pc := 20) C (v := 1) dX10_figureOf_20 ci_1 ?_
      refine kj_goto (pc := 21) C dX10_figureOf_21 (tgt := 25) (by decide) ?_
      exact k_X10_figureOf_25 C hr hR _ _ _ _ _ h
def f_X10_readPart_63 (n : Nat) (v2 : Int32) (v3 : Int32) (M : Mem) : Option (Mem) := match n with
  | 0 => none
  | n + 1 => if 4 ≤ v3 then (f_X10_figureOf 15 M).bind (fun q2 => lt_ (v2 + (4 : Int32)) (fun x4 => if ¬ (x4 < 0 ∨ 30 ≤ x4.toNatClampNeg) then lt_ (sw q2.2 27 5 x4.toNatClampNeg q2.1) (fun M5 => if ¬ (v2 < 0 ∨ 30 ≤ v2.toNatClampNeg) then lt_ (sw M5 27 0 7 ((M5.1 27 0 7) ||| ((1 : Int32) <<< ((M5.1 27 5 v2.toNatClampNeg) &&& 31)))) (fun M7 => lt_ (sw M7 27 0 6 ((M7.1 27 0 6) + (1 : Int32))) (fun M8 => some M8)) else none) else none)) else (f_X10_figureOf 1023 M).bind (fun q9 => lt_ (v2 + v3) (fun x11 => if ¬ (x11 < 0 ∨ 30 ≤ x11.toNatClampNeg) then lt_ (sw q9.2 27 5 x11.toNatClampNeg q9.1) (fun M12 => lt_ (v3 + 1) (fun x13 => f_X10_readPart_63 n v2 x13 M12)) else none))
set_option maxHeartbeats 4000000 in
set_option maxRecDepth 100000 in
theorem k_X10_readPart_63 {g : GT} {X : XT} {t : Mem} (C : Cx g X cX10_readPart RX10 4 2) (hr : (xt X).sig.returnType = none) (hR : Rt g X none t) (n : Nat) : ∀ (v2 : Int32) (v3 : Int32) (M : Mem) (w1 : Option Value), f_X10_readPart_63 n v2 v3 M = some t → Kj g X 4 63 [some (.ref (ga g 27 0)), w1, some (.int v2), some (.int v3)] [] M := by
  induction n with
  | zero => intro v2 v3 M w1 h; rw [f_X10_readPart_63] at h; cases h
  | succ n ih =>
    intro v2 v3 M w1 h
    rw [f_X10_readPart_63] at h
    refine kj_ild3 (pc := 63) C dX10_readPart_63 ?_
    refine kj_iconst (pc := 64) C (v := 4) dX10_readPart_64 ci_4 ?_
    refine kj_icmp_ge (pc := 65) C dX10_readPart_65 (tgt := 89) (by decide) (fun c1 => ?_) (fun c1 => ?_)
    · have h := of_pos c1 h
      refine kj_ald0 (pc := 89) C dX10_readPart_89 ?_
      refine gf_X10_22 (pc := 90) C dX10_readPart_90 ?_
      refine kj_ild2 (pc := 93) C dX10_readPart_93 ?_
      refine kj_iconst (pc := 94) C (v := 4) dX10_readPart_94 ci_4 ?_
      refine kj_iadd (pc := 95) C dX10_readPart_95 ?_
      refine kj_ald0 (pc := 96) C dX10_readPart_96 ?_
      refine kj_bipush (pc := 97) C (v := 15) dX10_readPart_97 cb_15 ?_
      obtain ⟨q2, eq2, h⟩ := of_bind h
      refine kj_callV1 (pc := 99) C (ct_X10_figureOf eq2) (Nat.le_of_ble_eq_true rfl) mi_X10_figureOf ml_X10_88 rc_27 rfl rfl ar1 (Nat.le_of_ble_eq_true rfl) dX10_readPart_99 ?_
      obtain ⟨x4, ex4, h⟩ := of_lt h
      refine kj_ni2 ex4 ?_
      obtain ⟨c3, h⟩ := of_gd h
      obtain ⟨M5, eM5, h⟩ := of_lt h
      refine kj_iast2 (pc := 102) C ia_27_5 c3 dX10_readPart_102 ?_
      refine kj_nM eM5 ?_
      refine kj_ald0 (pc := 103) C dX10_readPart_103 ?_
      refine kj_dup (pc := 104) C dX10_readPart_104 rfl ?_
      refine gf_X10_81 (pc := 105) C dX10_readPart_105 ?_
      refine kj_iconst (pc := 108) C (v := 1) dX10_readPart_108 ci_1 ?_
      refine kj_ald0 (pc := 109) C dX10_readPart_109 ?_
      refine gf_X10_22 (pc := 110) C dX10_readPart_110 ?_
      refine kj_ild2 (pc := 113) C dX10_readPart_113 ?_
      obtain ⟨c6, h⟩ := of_gd h
      refine kj_iald2 (pc := 114) C ia_27_5 c6 dX10_readPart_114 ?_
      refine kj_ishl (pc := 115) C dX10_readPart_115 ?_
      refine kj_ior (pc := 116) C dX10_readPart_116 ?_
      obtain ⟨M7, eM7, h⟩ := of_lt h
      refine pf_X10_81 (pc := 117) C dX10_readPart_117 ?_
      refine kj_nM eM7 ?_
      refine kj_ald0 (pc := 120) C dX10_readPart_120 ?_
      refine kj_dup (pc := 121) C dX10_readPart_121 rfl ?_
      refine gf_X10_78 (pc := 122) C dX10_readPart_122 ?_
      refine kj_iconst (pc := 125) C (v := 1) dX10_readPart_125 ci_1 ?_
      refine kj_iadd (pc := 126) C dX10_readPart_126 ?_
      obtain ⟨M8, eM8, h⟩ := of_lt h
      refine pf_X10_78 (pc := 127) C dX10_readPart_127 ?_
      refine kj_nM eM8 ?_
      cases h
      exact kj_vret (pc := 130) C hr hR dX10_readPart_130
    · have h := of_neg c1 h
      refine kj_ald0 (pc := 68) C dX10_readPart_68 ?_
      refine gf_X10_22 (pc := 69) C dX10_readPart_69 ?_
      refine kj_ild2 (pc := 72) C dX10_readPart_72 ?_
      refine kj_ild3 (pc := 73) C dX10_readPart_73 ?_
      refine kj_iadd (pc := 74) C dX10_readPart_74 ?_
      refine kj_ald0 (pc := 75) C dX10_readPart_75 ?_
      refine kj_sipush (pc := 76) C (v := 1023) dX10_readPart_76 cs_1023 ?_
      obtain ⟨q9, eq9, h⟩ := of_bind h
      refine kj_callV1 (pc := 79) C (ct_X10_figureOf eq9) (Nat.le_of_ble_eq_true rfl) mi_X10_figureOf ml_X10_88 rc_27 rfl rfl ar1 (Nat.le_of_ble_eq_true rfl) dX10_readPart_79 ?_
      obtain ⟨x11, ex11, h⟩ := of_lt h
      refine kj_ni2 ex11 ?_
      obtain ⟨c10, h⟩ := of_gd h
      obtain ⟨M12, eM12, h⟩ := of_lt h
      refine kj_iast2 (pc := 82) C ia_27_5 c10 dX10_readPart_82 ?_
      refine kj_nM eM12 ?_
      obtain ⟨x13, ex13, h⟩ := of_lt h
      refine kj_iinc3 (pc := 83) C (v := x13) dX10_readPart_83 (Nat.le_of_ble_eq_true rfl) rfl (by rw [ex13, ci_1]) ?_
      refine kj_goto (pc := 86) C dX10_readPart_86 (tgt := 63) (by decide) ?_
      exact ih _ _ _ _ h
def f_X10_readPart_15 (M : Mem) : Option (Mem) := lt_ (sw M 27 0 11 (M.1 27 0 10)) (fun M1 => some M1)
set_option maxHeartbeats 4000000 in
set_option maxRecDepth 100000 in
theorem k_X10_readPart_15 {g : GT} {X : XT} {t : Mem} (C : Cx g X cX10_readPart RX10 4 2) (hr : (xt X).sig.returnType = none) (hR : Rt g X none t) : ∀ (M : Mem) (w1 w2 w3 : Option Value), f_X10_readPart_15 M = some t → Kj g X 4 15 [some (.ref (ga g 27 0)), w1, w2, w3] [] M := by
  intro M w1 w2 w3 h
  unfold f_X10_readPart_15 at h
  refine kj_ald0 (pc := 15) C dX10_readPart_15 ?_
  refine kj_ald0 (pc := 16) C dX10_readPart_16 ?_
  refine gf_X10_69 (pc := 17) C dX10_readPart_17 ?_
  obtain ⟨M1, eM1, h⟩ := of_lt h
  refine pf_X10_66 (pc := 20) C dX10_readPart_20 ?_
  refine kj_nM eM1 ?_
  cases h
  exact kj_vret (pc := 23) C hr hR dX10_readPart_23
def f_X10_readPart (v1 : Int32) (M : Mem) : Option (Mem) := if v1 = 83 then if (M.1 27 0 6) = 6 then f_X10_readPart_15 M else lt_ (sw M 27 0 10 ((M.1 27 0 10) + (1 : Int32))) (fun M3 => lt_ ((5 : Int32) * (M3.1 27 0 6)) (fun x4 => (f_X10_figureOf ((255 : Int32) &&& ((M3.1 27 0 7) ^^^ (-1 : Int32))) M3).bind (fun q5 => if ¬ (x4 < 0 ∨ 30 ≤ x4.toNatClampNeg) then lt_ (sw q5.2 27 5 x4.toNatClampNeg q5.1) (fun M7 => f_X10_readPart_63 100 x4 1 M7) else none))) else f_X10_readPart_15 M
set_option maxHeartbeats 4000000 in
set_option maxRecDepth 100000 in
theorem ct_X10_readPart {g : GT} {l : Launch} {v1 : Int32} {M : Mem} {t : Mem} (h : f_X10_readPart v1 M = some t) : Ct g l 2 yX10_readPart cX10_readPart 4 (none) [.ref (ga g 27 0), .int v1] M (none) t := by
  refine ct_of (k := 2) (by decide) (Nat.le_of_ble_eq_true rfl) rfl (fun X C hl hr hR => ?_)
  subst hl
  have C : Cx g X cX10_readPart RX10 4 2 := C
  unfold f_X10_readPart at h
  refine kj_ild1 (pc := 0) C dX10_readPart_0 ?_
  refine kj_bipush (pc := 1) C (v := 83) dX10_readPart_1 cb_83 ?_
  refine kj_icmp_ne (pc := 3) C dX10_readPart_3 (tgt := 15) (by decide) (fun c1 => ?_) (fun c1 => ?_)
  · have h := of_neg c1 h
    exact k_X10_readPart_15 C hr hR  _ _ _ _ h
  · have h := of_pos c1 h
    refine kj_ald0 (pc := 6) C dX10_readPart_6 ?_
    refine gf_X10_78 (pc := 7) C dX10_readPart_7 ?_
    refine kj_bipush (pc := 10) C (v := 6) dX10_readPart_10 cb_6 ?_
    refine kj_icmp_ne (pc := 12) C dX10_readPart_12 (tgt := 24) (by decide) (fun c2 => ?_) (fun c2 => ?_)
    · have h := of_neg c2 h
      refine kj_ald0 (pc := 24) C dX10_readPart_24 ?_
      refine kj_dup (pc := 25) C dX10_readPart_25 rfl ?_
      refine gf_X10_69 (pc := 26) C dX10_readPart_26 ?_
      refine kj_iconst (pc := 29) C (v := 1) dX10_readPart_29 ci_1 ?_
      refine kj_iadd (pc := 30) C dX10_readPart_30 ?_
      obtain ⟨M3, eM3, h⟩ := of_lt h
      refine pf_X10_69 (pc := 31) C dX10_readPart_31 ?_
      refine kj_nM eM3 ?_
      refine kj_iconst (pc := 34) C (v := 5) dX10_readPart_34 ci_5 ?_
      refine kj_ald0 (pc := 35) C dX10_readPart_35 ?_
      refine gf_X10_78 (pc := 36) C dX10_readPart_36 ?_
      refine kj_imul (pc := 39) C dX10_readPart_39 ?_
      obtain ⟨x4, ex4, h⟩ := of_lt h
      refine kj_ni ex4 ?_
      refine kj_ist2 (pc := 40) C dX10_readPart_40 (Nat.le_of_ble_eq_true rfl) rfl ?_
      refine kj_ald0 (pc := 41) C dX10_readPart_41 ?_
      refine gf_X10_22 (pc := 42) C dX10_readPart_42 ?_
      refine kj_ild2 (pc := 45) C dX10_readPart_45 ?_
      refine kj_ald0 (pc := 46) C dX10_readPart_46 ?_
      refine kj_sipush (pc := 47) C (v := 255) dX10_readPart_47 cs_255 ?_
      refine kj_ald0 (pc := 50) C dX10_readPart_50 ?_
      refine gf_X10_81 (pc := 51) C dX10_readPart_51 ?_
      refine kj_iconst (pc := 54) C (v := (-1)) dX10_readPart_54 ci_m1 ?_
      refine kj_ixor (pc := 55) C dX10_readPart_55 ?_
      refine kj_iand (pc := 56) C dX10_readPart_56 ?_
      obtain ⟨q5, eq5, h⟩ := of_bind h
      refine kj_callV1 (pc := 57) C (ct_X10_figureOf eq5) (Nat.le_of_ble_eq_true rfl) mi_X10_figureOf ml_X10_88 rc_27 rfl rfl ar1 (Nat.le_of_ble_eq_true rfl) dX10_readPart_57 ?_
      obtain ⟨c6, h⟩ := of_gd h
      obtain ⟨M7, eM7, h⟩ := of_lt h
      refine kj_iast2 (pc := 60) C ia_27_5 c6 dX10_readPart_60 ?_
      refine kj_nM eM7 ?_
      refine kj_iconst (pc := 61) C (v := 1) dX10_readPart_61 ci_1 ?_
      refine kj_ist3 (pc := 62) C dX10_readPart_62 (Nat.le_of_ble_eq_true rfl) rfl ?_
      exact k_X10_readPart_63 C hr hR 100 _ _ _ _ h
    · have h := of_pos c2 h
      exact k_X10_readPart_15 C hr hR  _ _ _ _ h
def f_X10_readText_82 (M : Mem) : Option (Int32 × Mem) := some (M.1 27 0 11, M)
set_option maxHeartbeats 4000000 in
set_option maxRecDepth 100000 in
theorem k_X10_readText_82 {g : GT} {X : XT} {t : Int32 × Mem} (C : Cx g X cX10_readText RX10 1 3) (hr : (xt X).sig.returnType = some .int) (hR : Rt g X (some (.int t.1)) t.2) : ∀ (M : Mem), f_X10_readText_82 M = some t → Kj g X 1 82 [some (.ref (ga g 27 0))] [] M := by
  intro M h
  unfold f_X10_readText_82 at h
  refine kj_ald0 (pc := 82) C dX10_readText_82 ?_
  refine gf_X10_66 (pc := 83) C dX10_readText_83 ?_
  cases h
  exact kj_iret (pc := 86) C hr hR dX10_readText_86
def f_X10_readText_46 (n : Nat) (M : Mem) : Option (Int32 × Mem) := match n with
  | 0 => none
  | n + 1 => if (M.1 27 0 11) = (-9) then if (M.1 27 0 9) ≤ (M.1 27 0 10) then f_X10_readText_82 M else lt_ (M.1 27 0 10) (fun x4 => if ¬ (x4 < 0 ∨ 48 ≤ x4.toNatClampNeg) then (f_X10_readPart (M.1 27 6 x4.toNatClampNeg) M).bind (fun q5 => f_X10_readText_46 n q5) else none) else f_X10_readText_82 M
set_option maxHeartbeats 4000000 in
set_option maxRecDepth 100000 in
theorem k_X10_readText_46 {g : GT} {X : XT} {t : Int32 × Mem} (C : Cx g X cX10_readText RX10 1 3) (hr : (xt X).sig.returnType = some .int) (hR : Rt g X (some (.int t.1)) t.2) (n : Nat) : ∀ (M : Mem), f_X10_readText_46 n M = some t → Kj g X 1 46 [some (.ref (ga g 27 0))] [] M := by
  induction n with
  | zero => intro M h; rw [f_X10_readText_46] at h; cases h
  | succ n ih =>
    intro M h
    rw [f_X10_readText_46] at h
    refine kj_ald0 (pc := 46) C dX10_readText_46 ?_
    refine gf_X10_66 (pc := 47) C dX10_readText_47 ?_
    refine kj_bipush (pc := 50) C (v := (-9)) dX10_readText_50 cb_m9 ?_
    refine kj_icmp_ne (pc := 52) C dX10_readText_52 (tgt := 82) (by decide) (fun c1 => ?_) (fun c1 => ?_)
    · have h := of_neg c1 h
      exact k_X10_readText_82 C hr hR  _ h
    · have h := of_pos c1 h
      refine kj_ald0 (pc := 55) C dX10_readText_55 ?_
      refine gf_X10_69 (pc := 56) C dX10_readText_56 ?_
      refine kj_ald0 (pc := 59) C dX10_readText_59 ?_
      refine gf_X10_63 (pc := 60) C dX10_readText_60 ?_
      refine kj_icmp_ge (pc := 63) C dX10_readText_63 (tgt := 82) (by decide) (fun c2 => ?_) (fun c2 => ?_)
      · have h := of_pos c2 h
        exact k_X10_readText_82 C hr hR  _ h
      · have h := of_neg c2 h
        refine kj_ald0 (pc := 66) C dX10_readText_66 ?_
        refine kj_ald0 (pc := 67) C dX10_readText_67 ?_
        refine gf_X10_25 (pc := 68) C dX10_readText_68 ?_
        refine kj_ald0 (pc := 71) C dX10_readText_71 ?_
        refine gf_X10_69 (pc := 72) C dX10_readText_72 ?_
        obtain ⟨x4, ex4, h⟩ := of_lt h
        refine kj_ni ex4 ?_
        obtain ⟨c3, h⟩ := of_gd h
        refine kj_iald2 (pc := 75) C ia_27_6 c3 dX10_readText_75 ?_
        obtain ⟨q5, eq5, h⟩ := of_bind h
        refine kj_callV0 (pc := 76) C (ct_X10_readPart eq5) (Nat.le_of_ble_eq_true rfl) mi_X10_readPart ml_X10_84 rc_27 rfl rfl ar1 (Nat.le_of_ble_eq_true rfl) dX10_readText_76 ?_
        refine kj_goto (pc := 79) C dX10_readText_79 (tgt := 46) (by decide) ?_
        exact ih  _ h
def f_X10_readText_39 (M : Mem) : Option (Int32 × Mem) := some ((0 : Int32), M)
set_option maxHeartbeats 4000000 in
set_option maxRecDepth 100000 in
theorem k_X10_readText_39 {g : GT} {X : XT} {t : Int32 × Mem} (C : Cx g X cX10_readText RX10 1 3) (hr : (xt X).sig.returnType = some .int) (hR : Rt g X (some (.int t.1)) t.2) : ∀ (M : Mem) (w0 : Option Value), f_X10_readText_39 M = some t → Kj g X 1 39 [w0] [] M := by
  intro M w0 h
  unfold f_X10_readText_39 at h
  refine kj_iconst (pc := 39) C (v := 0) dX10_readText_39 ci_0 ?_
  cases h
  exact kj_iret (pc := 40) C hr hR dX10_readText_40
def f_X10_readText (M : Mem) : Option (Int32 × Mem) := lt_ (sw M 27 0 10 0) (fun M1 => lt_ (sw M1 27 0 11 (-9)) (fun M2 => lt_ (sw M2 27 0 6 0) (fun M3 => lt_ (sw M3 27 0 7 0) (fun M4 => if (M4.1 27 0 9) = 0 then f_X10_readText_39 M4 else if ¬ ((0 : Int32) < 0 ∨ 48 ≤ (0 : Int32).toNatClampNeg) then if (M4.1 27 6 (0 : Int32).toNatClampNeg) = 67 then lt_ (sw M4 27 0 10 1) (fun M8 => f_X10_readText_46 100 M8) else f_X10_readText_39 M4 else none))))
set_option maxHeartbeats 4000000 in
set_option maxRecDepth 100000 in
theorem ct_X10_readText {g : GT} {l : Launch} {M : Mem} {t : Int32 × Mem} (h : f_X10_readText M = some t) : Ct g l 3 yX10_readText cX10_readText 1 (some .int) [.ref (ga g 27 0)] M (some (.int t.1)) t.2 := by
  refine ct_of (k := 0) (by decide) (Nat.le_of_ble_eq_true rfl) rfl (fun X C hl hr hR => ?_)
  subst hl
  have C : Cx g X cX10_readText RX10 1 3 := C
  unfold f_X10_readText at h
  refine kj_ald0 (pc := 0) C dX10_readText_0 ?_
  refine kj_iconst (pc := 1) C (v := 0) dX10_readText_1 ci_0 ?_
  obtain ⟨M1, eM1, h⟩ := of_lt h
  refine pf_X10_69 (pc := 2) C dX10_readText_2 ?_
  refine kj_nM eM1 ?_
  refine kj_ald0 (pc := 5) C dX10_readText_5 ?_
  refine kj_bipush (pc := 6) C (v := (-9)) dX10_readText_6 cb_m9 ?_
  obtain ⟨M2, eM2, h⟩ := of_lt h
  refine pf_X10_66 (pc := 8) C dX10_readText_8 ?_
  refine kj_nM eM2 ?_
  refine kj_ald0 (pc := 11) C dX10_readText_11 ?_
  refine kj_iconst (pc := 12) C (v := 0) dX10_readText_12 ci_0 ?_
  obtain ⟨M3, eM3, h⟩ := of_lt h
  refine pf_X10_78 (pc := 13) C dX10_readText_13 ?_
  refine kj_nM eM3 ?_
  refine kj_ald0 (pc := 16) C dX10_readText_16 ?_
  refine kj_iconst (pc := 17) C (v := 0) dX10_readText_17 ci_0 ?_
  obtain ⟨M4, eM4, h⟩ := of_lt h
  refine pf_X10_81 (pc := 18) C dX10_readText_18 ?_
  refine kj_nM eM4 ?_
  refine kj_ald0 (pc := 21) C dX10_readText_21 ?_
  refine gf_X10_63 (pc := 22) C dX10_readText_22 ?_
  refine kj_if_eq (pc := 25) C dX10_readText_25 (tgt := 39) (by decide) (fun c5 => ?_) (fun c5 => ?_)
  · have h := of_pos c5 h
    exact k_X10_readText_39 C hr hR  _ _ h
  · have h := of_neg c5 h
    refine kj_ald0 (pc := 28) C dX10_readText_28 ?_
    refine gf_X10_25 (pc := 29) C dX10_readText_29 ?_
    refine kj_iconst (pc := 32) C (v := 0) dX10_readText_32 ci_0 ?_
    obtain ⟨c6, h⟩ := of_gd h
    refine kj_iald2 (pc := 33) C ia_27_6 c6 dX10_readText_33 ?_
    refine kj_bipush (pc := 34) C (v := 67) dX10_readText_34 cb_67 ?_
    refine kj_icmp_eq (pc := 36) C dX10_readText_36 (tgt := 41) (by decide) (fun c7 => ?_) (fun c7 => ?_)
    · have h := of_pos c7 h
      refine kj_ald0 (pc := 41) C dX10_readText_41 ?_
      refine kj_iconst (pc := 42) C (v := 1) dX10_readText_42 ci_1 ?_
      obtain ⟨M8, eM8, h⟩ := of_lt h
      refine pf_X10_69 (pc := 43) C dX10_readText_43 ?_
      refine kj_nM eM8 ?_
      exact k_X10_readText_46 C hr hR 100  _ h
    · have h := of_neg c7 h
      exact k_X10_readText_39 C hr hR  _ _ h
def f_X10_fault (M : Mem) : Option (Int32 × Mem) := (f_X10_readText M).bind (fun q1 => some (q1.1, q1.2))
set_option maxHeartbeats 4000000 in
set_option maxRecDepth 100000 in
theorem ct_X10_fault {g : GT} {l : Launch} {M : Mem} {t : Int32 × Mem} (h : f_X10_fault M = some t) : Ct g l 4 yX10_fault cX10_fault 1 (some .int) [.ref (ga g 27 0)] M (some (.int t.1)) t.2 := by
  refine ct_of (k := 0) (by decide) (Nat.le_of_ble_eq_true rfl) rfl (fun X C hl hr hR => ?_)
  subst hl
  have C : Cx g X cX10_fault RX10 1 4 := C
  unfold f_X10_fault at h
  refine kj_ald0 (pc := 0) C dX10_fault_0 ?_
  obtain ⟨q1, eq1, h⟩ := of_bind h
  refine kj_callV1 (pc := 1) C (ct_X10_readText eq1) (Nat.le_of_ble_eq_true rfl) mi_X10_readText ml_X10_92 rc_27 rfl rfl ar0 (Nat.le_of_ble_eq_true rfl) dX10_fault_1 ?_
  cases h
  exact kj_iret (pc := 4) C hr hR dX10_fault_4
def f_X10_choir_43 (n : Nat) (v1 : Int32) (M : Mem) : Option (Int32 × Mem) := match n with
  | 0 => none
  | n + 1 => if (M.1 27 0 0) ≤ v1 then lt_ (sw M 27 0 14 0) (fun M2 => if ¬ ((0 : Int32) < 0 ∨ 2 ≤ (0 : Int32).toNatClampNeg) then lt_ (sw M2 27 13 (0 : Int32).toNatClampNeg 0) (fun M4 => if ¬ ((1 : Int32) < 0 ∨ 2 ≤ (1 : Int32).toNatClampNeg) then lt_ (sw M4 27 13 (1 : Int32).toNatClampNeg 0) (fun M6 => some (M6.1 27 0 0, M6)) else none) else none) else lt_ ((5 : Int32) * v1) (fun x8 => if ¬ (x8 < 0 ∨ 30 ≤ x8.toNatClampNeg) then if ¬ (v1 < 0 ∨ 40 ≤ v1.toNatClampNeg) then lt_ (sw M 27 4 v1.toNatClampNeg (M.1 27 5 x8.toNatClampNeg)) (fun M10 => lt_ (((5 : Int32) * v1) + (1 : Int32)) (fun x12 => if ¬ (x12 < 0 ∨ 30 ≤ x12.toNatClampNeg) then if ¬ (v1 < 0 ∨ 6 ≤ v1.toNatClampNeg) then lt_ (sw M10 27 1 v1.toNatClampNeg (M10.1 27 5 x12.toNatClampNeg)) (fun M14 => lt_ (((5 : Int32) * v1) + (2 : Int32)) (fun x16 => if ¬ (x16 < 0 ∨ 30 ≤ x16.toNatClampNeg) then if ¬ (v1 < 0 ∨ 6 ≤ v1.toNatClampNeg) then lt_ (sw M14 27 2 v1.toNatClampNeg (M14.1 27 5 x16.toNatClampNeg)) (fun M18 => lt_ (((5 : Int32) * v1) + (3 : Int32)) (fun x20 => if ¬ (x20 < 0 ∨ 30 ≤ x20.toNatClampNeg) then lt_ ((6 : Int32) + v1) (fun x22 => if ¬ (x22 < 0 ∨ 40 ≤ x22.toNatClampNeg) then lt_ (sw M18 27 4 x22.toNatClampNeg (M18.1 27 5 x20.toNatClampNeg)) (fun M23 => lt_ (((5 : Int32) * v1) + (4 : Int32)) (fun x25 => if ¬ (x25 < 0 ∨ 30 ≤ x25.toNatClampNeg) then if ¬ (v1 < 0 ∨ 6 ≤ v1.toNatClampNeg) then lt_ (sw M23 27 3 v1.toNatClampNeg (M23.1 27 5 x25.toNatClampNeg)) (fun M27 => if ¬ (v1 < 0 ∨ 6 ≤ v1.toNatClampNeg) then lt_ ((12 : Int32) + v1) (fun x30 => if ¬ (x30 < 0 ∨ 40 ≤ x30.toNatClampNeg) then lt_ (sw M27 27 4 x30.toNatClampNeg (M27.1 27 1 v1.toNatClampNeg)) (fun M31 => lt_ (v1 + 1) (fun x32 => f_X10_choir_43 n x32 M31)) else none) else none) else none else none)) else none) else none)) else none else none)) else none else none)) else none else none)
set_option maxHeartbeats 4000000 in
set_option maxRecDepth 100000 in
theorem k_X10_choir_43 {g : GT} {X : XT} {t : Int32 × Mem} (C : Cx g X cX10_choir RX10 2 4) (hr : (xt X).sig.returnType = some .int) (hR : Rt g X (some (.int t.1)) t.2) (n : Nat) : ∀ (v1 : Int32) (M : Mem), f_X10_choir_43 n v1 M = some t → Kj g X 2 43 [some (.ref (ga g 27 0)), some (.int v1)] [] M := by
  induction n with
  | zero => intro v1 M h; rw [f_X10_choir_43] at h; cases h
  | succ n ih =>
    intro v1 M h
    rw [f_X10_choir_43] at h
    refine kj_ild1 (pc := 43) C dX10_choir_43 ?_
    refine kj_ald0 (pc := 44) C dX10_choir_44 ?_
    refine gf_X10_96 (pc := 45) C dX10_choir_45 ?_
    refine kj_icmp_ge (pc := 48) C dX10_choir_48 (tgt := 153) (by decide) (fun c1 => ?_) (fun c1 => ?_)
    · have h := of_pos c1 h
      refine kj_ald0 (pc := 153) C dX10_choir_153 ?_
      refine kj_iconst (pc := 154) C (v := 0) dX10_choir_154 ci_0 ?_
      obtain ⟨M2, eM2, h⟩ := of_lt h
      refine pf_X10_99 (pc := 155) C dX10_choir_155 ?_
      refine kj_nM eM2 ?_
      refine kj_ald0 (pc := 158) C dX10_choir_158 ?_
      refine gf_X10_50 (pc := 159) C dX10_choir_159 ?_
      refine kj_iconst (pc := 162) C (v := 0) dX10_choir_162 ci_0 ?_
      refine kj_iconst (pc := 163) C (v := 0) dX10_choir_163 ci_0 ?_
      obtain ⟨c3, h⟩ := of_gd h
      obtain ⟨M4, eM4, h⟩ := of_lt h
      refine kj_zast (pc := 164) C c3 rfl dX10_choir_164 ?_
      refine kj_nM eM4 ?_
      refine kj_ald0 (pc := 165) C dX10_choir_165 ?_
      refine gf_X10_50 (pc := 166) C dX10_choir_166 ?_
      refine kj_iconst (pc := 169) C (v := 1) dX10_choir_169 ci_1 ?_
      refine kj_iconst (pc := 170) C (v := 0) dX10_choir_170 ci_0 ?_
      obtain ⟨c5, h⟩ := of_gd h
      obtain ⟨M6, eM6, h⟩ := of_lt h
      refine kj_zast (pc := 171) C c5 rfl dX10_choir_171 ?_
      refine kj_nM eM6 ?_
      refine kj_ald0 (pc := 172) C dX10_choir_172 ?_
      refine gf_X10_96 (pc := 173) C dX10_choir_173 ?_
      cases h
      exact kj_iret (pc := 176) C hr hR dX10_choir_176
    · have h := of_neg c1 h
      refine kj_ald0 (pc := 51) C dX10_choir_51 ?_
      refine gf_X10_19 (pc := 52) C dX10_choir_52 ?_
      refine kj_ild1 (pc := 55) C dX10_choir_55 ?_
      refine kj_ald0 (pc := 56) C dX10_choir_56 ?_
      refine gf_X10_22 (pc := 57) C dX10_choir_57 ?_
      refine kj_iconst (pc := 60) C (v := 5) dX10_choir_60 ci_5 ?_
      refine kj_ild1 (pc := 61) C dX10_choir_61 ?_
      refine kj_imul (pc := 62) C dX10_choir_62 ?_
      obtain ⟨x8, ex8, h⟩ := of_lt h
      refine kj_ni ex8 ?_
      obtain ⟨c7, h⟩ := of_gd h
      refine kj_iald2 (pc := 63) C ia_27_5 c7 dX10_choir_63 ?_
      obtain ⟨c9, h⟩ := of_gd h
      obtain ⟨M10, eM10, h⟩ := of_lt h
      refine kj_iast2 (pc := 64) C ia_27_4 c9 dX10_choir_64 ?_
      refine kj_nM eM10 ?_
      refine kj_ald0 (pc := 65) C dX10_choir_65 ?_
      refine gf_X10_7 (pc := 66) C dX10_choir_66 ?_
      refine kj_ild1 (pc := 69) C dX10_choir_69 ?_
      refine kj_ald0 (pc := 70) C dX10_choir_70 ?_
      refine gf_X10_22 (pc := 71) C dX10_choir_71 ?_
      refine kj_iconst (pc := 74) C (v := 5) dX10_choir_74 ci_5 ?_
      refine kj_ild1 (pc := 75) C dX10_choir_75 ?_
      refine kj_imul (pc := 76) C dX10_choir_76 ?_
      refine kj_iconst (pc := 77) C (v := 1) dX10_choir_77 ci_1 ?_
      refine kj_iadd (pc := 78) C dX10_choir_78 ?_
      obtain ⟨x12, ex12, h⟩ := of_lt h
      refine kj_ni ex12 ?_
      obtain ⟨c11, h⟩ := of_gd h
      refine kj_iald2 (pc := 79) C ia_27_5 c11 dX10_choir_79 ?_
      obtain ⟨c13, h⟩ := of_gd h
      obtain ⟨M14, eM14, h⟩ := of_lt h
      refine kj_iast2 (pc := 80) C ia_27_1 c13 dX10_choir_80 ?_
      refine kj_nM eM14 ?_
      refine kj_ald0 (pc := 81) C dX10_choir_81 ?_
      refine gf_X10_13 (pc := 82) C dX10_choir_82 ?_
      refine kj_ild1 (pc := 85) C dX10_choir_85 ?_
      refine kj_ald0 (pc := 86) C dX10_choir_86 ?_
      refine gf_X10_22 (pc := 87) C dX10_choir_87 ?_
      refine kj_iconst (pc := 90) C (v := 5) dX10_choir_90 ci_5 ?_
      refine kj_ild1 (pc := 91) C dX10_choir_91 ?_
      refine kj_imul (pc := 92) C dX10_choir_92 ?_
      refine kj_iconst (pc := 93) C (v := 2) dX10_choir_93 ci_2 ?_
      refine kj_iadd (pc := 94) C dX10_choir_94 ?_
      obtain ⟨x16, ex16, h⟩ := of_lt h
      refine kj_ni ex16 ?_
      obtain ⟨c15, h⟩ := of_gd h
      refine kj_iald2 (pc := 95) C ia_27_5 c15 dX10_choir_95 ?_
      obtain ⟨c17, h⟩ := of_gd h
      obtain ⟨M18, eM18, h⟩ := of_lt h
      refine kj_iast2 (pc := 96) C ia_27_2 c17 dX10_choir_96 ?_
      refine kj_nM eM18 ?_
      refine kj_ald0 (pc := 97) C dX10_choir_97 ?_
      refine gf_X10_19 (pc := 98) C dX10_choir_98 ?_
      refine kj_bipush (pc := 101) C (v := 6) dX10_choir_101 cb_6 ?_
      refine kj_ild1 (pc := 103) C dX10_choir_103 ?_
      refine kj_iadd (pc := 104) C dX10_choir_104 ?_
      refine kj_ald0 (pc := 105) C dX10_choir_105 ?_
      refine gf_X10_22 (pc := 106) C dX10_choir_106 ?_
      refine kj_iconst (pc := 109) C (v := 5) dX10_choir_109 ci_5 ?_
      refine kj_ild1 (pc := 110) C dX10_choir_110 ?_
      refine kj_imul (pc := 111) C dX10_choir_111 ?_
      refine kj_iconst (pc := 112) C (v := 3) dX10_choir_112 ci_3 ?_
      refine kj_iadd (pc := 113) C dX10_choir_113 ?_
      obtain ⟨x20, ex20, h⟩ := of_lt h
      refine kj_ni ex20 ?_
      obtain ⟨c19, h⟩ := of_gd h
      refine kj_iald2 (pc := 114) C ia_27_5 c19 dX10_choir_114 ?_
      obtain ⟨x22, ex22, h⟩ := of_lt h
      refine kj_ni2 ex22 ?_
      obtain ⟨c21, h⟩ := of_gd h
      obtain ⟨M23, eM23, h⟩ := of_lt h
      refine kj_iast2 (pc := 115) C ia_27_4 c21 dX10_choir_115 ?_
      refine kj_nM eM23 ?_
      refine kj_ald0 (pc := 116) C dX10_choir_116 ?_
      refine gf_X10_16 (pc := 117) C dX10_choir_117 ?_
      refine kj_ild1 (pc := 120) C dX10_choir_120 ?_
      refine kj_ald0 (pc := 121) C dX10_choir_121 ?_
      refine gf_X10_22 (pc := 122) C dX10_choir_122 ?_
      refine kj_iconst (pc := 125) C (v := 5) dX10_choir_125 ci_5 ?_
      refine kj_ild1 (pc := 126) C dX10_choir_126 ?_
      refine kj_imul (pc := 127) C dX10_choir_127 ?_
      refine kj_iconst (pc := 128) C (v := 4) dX10_choir_128 ci_4 ?_
      refine kj_iadd (pc := 129) C dX10_choir_129 ?_
      obtain ⟨x25, ex25, h⟩ := of_lt h
      refine kj_ni ex25 ?_
      obtain ⟨c24, h⟩ := of_gd h
      refine kj_iald2 (pc := 130) C ia_27_5 c24 dX10_choir_130 ?_
      obtain ⟨c26, h⟩ := of_gd h
      obtain ⟨M27, eM27, h⟩ := of_lt h
      refine kj_iast2 (pc := 131) C ia_27_3 c26 dX10_choir_131 ?_
      refine kj_nM eM27 ?_
      refine kj_ald0 (pc := 132) C dX10_choir_132 ?_
      refine gf_X10_19 (pc := 133) C dX10_choir_133 ?_
      refine kj_bipush (pc := 136) C (v := 12) dX10_choir_136 cb_12 ?_
      refine kj_ild1 (pc := 138) C dX10_choir_138 ?_
      refine kj_iadd (pc := 139) C dX10_choir_139 ?_
      refine kj_ald0 (pc := 140) C dX10_choir_140 ?_
      refine gf_X10_7 (pc := 141) C dX10_choir_141 ?_
      refine kj_ild1 (pc := 144) C dX10_choir_144 ?_
      obtain ⟨c28, h⟩ := of_gd h
      refine kj_iald2 (pc := 145) C ia_27_1 c28 dX10_choir_145 ?_
      obtain ⟨x30, ex30, h⟩ := of_lt h
      refine kj_ni2 ex30 ?_
      obtain ⟨c29, h⟩ := of_gd h
      obtain ⟨M31, eM31, h⟩ := of_lt h
      refine kj_iast2 (pc := 146) C ia_27_4 c29 dX10_choir_146 ?_
      refine kj_nM eM31 ?_
      obtain ⟨x32, ex32, h⟩ := of_lt h
      refine kj_iinc1 (pc := 147) C (v := x32) dX10_choir_147 (Nat.le_of_ble_eq_true rfl) rfl (by rw [ex32, ci_1]) ?_
      refine kj_goto (pc := 150) C dX10_choir_150 (tgt := 43) (by decide) ?_
      exact ih _ _ h
def f_X10_choir_22 (n : Nat) (v1 : Int32) (M : Mem) : Option (Int32 × Mem) := match n with
  | 0 => none
  | n + 1 => if 20 ≤ v1 then f_X10_choir_43 100 0 M else if ¬ (v1 < 0 ∨ 40 ≤ v1.toNatClampNeg) then lt_ (sw M 27 4 v1.toNatClampNeg 0) (fun M3 => lt_ (v1 + 1) (fun x4 => f_X10_choir_22 n x4 M3)) else none
set_option maxHeartbeats 4000000 in
set_option maxRecDepth 100000 in
theorem k_X10_choir_22 {g : GT} {X : XT} {t : Int32 × Mem} (C : Cx g X cX10_choir RX10 2 4) (hr : (xt X).sig.returnType = some .int) (hR : Rt g X (some (.int t.1)) t.2) (n : Nat) : ∀ (v1 : Int32) (M : Mem), f_X10_choir_22 n v1 M = some t → Kj g X 2 22 [some (.ref (ga g 27 0)), some (.int v1)] [] M := by
  induction n with
  | zero => intro v1 M h; rw [f_X10_choir_22] at h; cases h
  | succ n ih =>
    intro v1 M h
    rw [f_X10_choir_22] at h
    refine kj_ild1 (pc := 22) C dX10_choir_22 ?_
    refine kj_bipush (pc := 23) C (v := 20) dX10_choir_23 cb_20 ?_
    refine kj_icmp_ge (pc := 25) C dX10_choir_25 (tgt := 41) (by decide) (fun c1 => ?_) (fun c1 => ?_)
    · have h := of_pos c1 h
      refine kj_iconst (pc := 41) C (v := 0) dX10_choir_41 ci_0 ?_
      refine kj_ist1 (pc := 42) C dX10_choir_42 (Nat.le_of_ble_eq_true rfl) rfl ?_
      exact k_X10_choir_43 C hr hR 100 _ _ h
    · have h := of_neg c1 h
      refine kj_ald0 (pc := 28) C dX10_choir_28 ?_
      refine gf_X10_19 (pc := 29) C dX10_choir_29 ?_
      refine kj_ild1 (pc := 32) C dX10_choir_32 ?_
      refine kj_iconst (pc := 33) C (v := 0) dX10_choir_33 ci_0 ?_
      obtain ⟨c2, h⟩ := of_gd h
      obtain ⟨M3, eM3, h⟩ := of_lt h
      refine kj_iast2 (pc := 34) C ia_27_4 c2 dX10_choir_34 ?_
      refine kj_nM eM3 ?_
      obtain ⟨x4, ex4, h⟩ := of_lt h
      refine kj_iinc1 (pc := 35) C (v := x4) dX10_choir_35 (Nat.le_of_ble_eq_true rfl) rfl (by rw [ex4, ci_1]) ?_
      refine kj_goto (pc := 38) C dX10_choir_38 (tgt := 22) (by decide) ?_
      exact ih _ _ h
def f_X10_choir (M : Mem) : Option (Int32 × Mem) := (f_X10_readText M).bind (fun q1 => if q1.1 = (-9) then lt_ (sw q1.2 27 0 0 (q1.2.1 27 0 6)) (fun M3 => f_X10_choir_22 100 0 M3) else some (((-3) : Int32), q1.2))
set_option maxHeartbeats 4000000 in
set_option maxRecDepth 100000 in
theorem ct_X10_choir {g : GT} {l : Launch} {M : Mem} {t : Int32 × Mem} (h : f_X10_choir M = some t) : Ct g l 4 yX10_choir cX10_choir 2 (some .int) [.ref (ga g 27 0)] M (some (.int t.1)) t.2 := by
  refine ct_of (k := 1) (by decide) (Nat.le_of_ble_eq_true rfl) rfl (fun X C hl hr hR => ?_)
  subst hl
  have C : Cx g X cX10_choir RX10 2 4 := C
  unfold f_X10_choir at h
  refine kj_ald0 (pc := 0) C dX10_choir_0 ?_
  obtain ⟨q1, eq1, h⟩ := of_bind h
  refine kj_callV1 (pc := 1) C (ct_X10_readText eq1) (Nat.le_of_ble_eq_true rfl) mi_X10_readText ml_X10_92 rc_27 rfl rfl ar0 (Nat.le_of_ble_eq_true rfl) dX10_choir_1 ?_
  refine kj_bipush (pc := 4) C (v := (-9)) dX10_choir_4 cb_m9 ?_
  refine kj_icmp_eq (pc := 6) C dX10_choir_6 (tgt := 12) (by decide) (fun c2 => ?_) (fun c2 => ?_)
  · have h := of_pos c2 h
    refine kj_ald0 (pc := 12) C dX10_choir_12 ?_
    refine kj_ald0 (pc := 13) C dX10_choir_13 ?_
    refine gf_X10_78 (pc := 14) C dX10_choir_14 ?_
    obtain ⟨M3, eM3, h⟩ := of_lt h
    refine pf_X10_96 (pc := 17) C dX10_choir_17 ?_
    refine kj_nM eM3 ?_
    refine kj_iconst (pc := 20) C (v := 0) dX10_choir_20 ci_0 ?_
    refine kj_ist1 (pc := 21) C dX10_choir_21 (Nat.le_of_ble_eq_true rfl) rfl ?_
    exact k_X10_choir_22 C hr hR 100 _ _ h
  · have h := of_neg c2 h
    refine kj_bipush (pc := 9) C (v := (-3)) dX10_choir_9 cb_m3 ?_
    cases h
    exact kj_iret (pc := 11) C hr hR dX10_choir_11
def f_X10_isSinger (v1 : Int32) (M : Mem) : Option (Int32) := (f_X10_in v1.toInt64 0 (((M.1 27 0 0) - (1 : Int32)).toInt64) M).bind (fun q1 => if q1 = 0 ∨ q1 = 1 then some q1 else none)
set_option maxHeartbeats 4000000 in
set_option maxRecDepth 100000 in
theorem ct_X10_isSinger {g : GT} {l : Launch} {v1 : Int32} {M : Mem} {t : Int32} (h : f_X10_isSinger v1 M = some t) : Ct g l 1 yX10_isSinger cX10_isSinger 2 (some .boolean) [.ref (ga g 27 0), .int v1] M (some (.int t)) M := by
  refine ct_of (k := 0) (by decide) (Nat.le_of_ble_eq_true rfl) rfl (fun X C hl hr hR => ?_)
  subst hl
  have C : Cx g X cX10_isSinger RX10 2 1 := C
  unfold f_X10_isSinger at h
  refine kj_ild1 (pc := 0) C dX10_isSinger_0 ?_
  refine kj_i2l (pc := 1) C dX10_isSinger_1 ?_
  refine kj_lconst (pc := 2) C (v := 0) dX10_isSinger_2 cl_0 ?_
  refine kj_ald0 (pc := 3) C dX10_isSinger_3 ?_
  refine gf_X10_96 (pc := 4) C dX10_isSinger_4 ?_
  refine kj_iconst (pc := 7) C (v := 1) dX10_isSinger_7 ci_1 ?_
  refine kj_isub (pc := 8) C dX10_isSinger_8 ?_
  refine kj_i2l (pc := 9) C dX10_isSinger_9 ?_
  obtain ⟨q1, eq1, h⟩ := of_bind h
  refine kj_callS1 (pc := 10) C (ct_X10_in eq1) (Nat.le_of_ble_eq_true rfl) mi_X10_in ml_X10_59 rfl as3 (Nat.le_of_ble_eq_true rfl) dX10_isSinger_10 ?_
  obtain ⟨c2, h⟩ := of_gd h
  cases h
  exact kj_zret (pc := 13) C hr c2 hR dX10_isSinger_13
def f_X10_seesOf_82 (M : Mem) (k5 : Int32 → Int32 → Int32 → Int32 → Option (Int32)) (v1 : Int32) (v2 : Int32) (v4 : Int32) (s0 : Int32) (s1 : Int32) : Option (Int32) := lt_ (s0 ||| s1) (fun x1 => lt_ (v4 + 1) (fun x2 => k5 v1 v2 x1 x2))
set_option maxHeartbeats 4000000 in
set_option maxRecDepth 100000 in
theorem k_X10_seesOf_82 {g : GT} {X : XT} {M : Mem} {k5 : Int32 → Int32 → Int32 → Int32 → Option (Int32)} {t : Int32} (C : Cx g X cX10_seesOf RX10 6 1) (hr : (xt X).sig.returnType = some .int) (hR : Rt g X (some (.int t)) M) (hk5 : ∀ (v1 : Int32) (v2 : Int32) (v3 : Int32) (v4 : Int32) (w5 : Option Value), k5 v1 v2 v3 v4 = some t → Kj g X 6 5 [some (.ref (ga g 27 0)), some (.int v1), some (.int v2), some (.int v3), some (.int v4), w5] [] M) : ∀ (v1 : Int32) (v2 : Int32) (v4 : Int32) (s0 : Int32) (s1 : Int32) (w3 w5 : Option Value), f_X10_seesOf_82 M k5 v1 v2 v4 s0 s1 = some t → Kj g X 6 82 [some (.ref (ga g 27 0)), some (.int v1), some (.int v2), w3, some (.int v4), w5] [.int s1, .int s0] M := by
  intro v1 v2 v4 s0 s1 w3 w5 h
  unfold f_X10_seesOf_82 at h
  refine kj_ior (pc := 82) C dX10_seesOf_82 ?_
  obtain ⟨x1, ex1, h⟩ := of_lt h
  refine kj_ni ex1 ?_
  refine kj_ist3 (pc := 83) C dX10_seesOf_83 (Nat.le_of_ble_eq_true rfl) rfl ?_
  obtain ⟨x2, ex2, h⟩ := of_lt h
  refine kj_iinc4 (pc := 84) C (v := x2) dX10_seesOf_84 (Nat.le_of_ble_eq_true rfl) rfl (by rw [ex2, ci_1]) ?_
  refine kj_goto (pc := 87) C dX10_seesOf_87 (tgt := 5) (by decide) ?_
  exact hk5 _ _ _ _ _ h
def f_X10_seesOf_81 (M : Mem) (k5 : Int32 → Int32 → Int32 → Int32 → Option (Int32)) (v1 : Int32) (v2 : Int32) (v4 : Int32) (s0 : Int32) : Option (Int32) := f_X10_seesOf_82 M k5 v1 v2 v4 s0 0
set_option maxHeartbeats 4000000 in
set_option maxRecDepth 100000 in
theorem k_X10_seesOf_81 {g : GT} {X : XT} {M : Mem} {k5 : Int32 → Int32 → Int32 → Int32 → Option (Int32)} {t : Int32} (C : Cx g X cX10_seesOf RX10 6 1) (hr : (xt X).sig.returnType = some .int) (hR : Rt g X (some (.int t)) M) (hk5 : ∀ (v1 : Int32) (v2 : Int32) (v3 : Int32) (v4 : Int32) (w5 : Option Value), k5 v1 v2 v3 v4 = some t → Kj g X 6 5 [some (.ref (ga g 27 0)), some (.int v1), some (.int v2), some (.int v3), some (.int v4), w5] [] M) : ∀ (v1 : Int32) (v2 : Int32) (v4 : Int32) (s0 : Int32) (w3 w5 : Option Value), f_X10_seesOf_81 M k5 v1 v2 v4 s0 = some t → Kj g X 6 81 [some (.ref (ga g 27 0)), some (.int v1), some (.int v2), w3, some (.int v4), w5] [.int s0] M := by
  intro v1 v2 v4 s0 w3 w5 h
  unfold f_X10_seesOf_81 at h
  refine kj_iconst (pc := 81) C (v := 0) dX10_seesOf_81 ci_0 ?_
  exact k_X10_seesOf_82 C hr hR hk5 _ _ _ _ _ _ _ h
def f_X10_seesOf_5 (M : Mem) (n : Nat) (v1 : Int32) (v2 : Int32) (v3 : Int32) (v4 : Int32) : Option (Int32) := match n with
  | 0 => none
  | n + 1 => if (M.1 27 0 0) ≤ v4 then some v3 else lt_ (((20 : Int32) * v1) + v4) (fun x3 => if ¬ (x3 < 0 ∨ 40 ≤ x3.toNatClampNeg) then lt_ (((20 : Int32) * v1) + v2) (fun x5 => if ¬ (x5 < 0 ∨ 40 ≤ x5.toNatClampNeg) then lt_ ((M.1 27 4 x3.toNatClampNeg) - (M.1 27 4 x5.toNatClampNeg)) (fun x6 => if v4 = v2 then f_X10_seesOf_81 M (f_X10_seesOf_5 M n) v1 v2 v4 v3 else (f_X10_has (M.1 27 0 12) v4 M).bind (fun q8 => if q8 = 0 then f_X10_seesOf_81 M (f_X10_seesOf_5 M n) v1 v2 v4 v3 else (f_X10_in x6.toInt64 (-3) 3 M).bind (fun q10 => if q10 = 0 then f_X10_seesOf_81 M (f_X10_seesOf_5 M n) v1 v2 v4 v3 else f_X10_seesOf_82 M (f_X10_seesOf_5 M n) v1 v2 v4 v3 ((1 : Int32) <<< (v4 &&& 31))))) else none) else none)
set_option maxHeartbeats 4000000 in
set_option maxRecDepth 100000 in
theorem k_X10_seesOf_5 {g : GT} {X : XT} {M : Mem} {t : Int32} (C : Cx g X cX10_seesOf RX10 6 1) (hr : (xt X).sig.returnType = some .int) (hR : Rt g X (some (.int t)) M) (n : Nat) : ∀ (v1 : Int32) (v2 : Int32) (v3 : Int32) (v4 : Int32) (w5 : Option Value), f_X10_seesOf_5 M n v1 v2 v3 v4 = some t → Kj g X 6 5 [some (.ref (ga g 27 0)), some (.int v1), some (.int v2), some (.int v3), some (.int v4), w5] [] M := by
  induction n with
  | zero => intro v1 v2 v3 v4 w5 h; rw [f_X10_seesOf_5] at h; cases h
  | succ n ih =>
    intro v1 v2 v3 v4 w5 h
    rw [f_X10_seesOf_5] at h
    refine kj_ild4 (pc := 5) C dX10_seesOf_5 ?_
    refine kj_ald0 (pc := 7) C dX10_seesOf_7 ?_
    refine gf_X10_96 (pc := 8) C dX10_seesOf_8 ?_
    refine kj_icmp_ge (pc := 11) C dX10_seesOf_11 (tgt := 90) (by decide) (fun c1 => ?_) (fun c1 => ?_)
    · have h := of_pos c1 h
      refine kj_ild3 (pc := 90) C dX10_seesOf_90 ?_
      cases h
      exact kj_iret (pc := 91) C hr hR dX10_seesOf_91
    · have h := of_neg c1 h
      refine kj_ald0 (pc := 14) C dX10_seesOf_14 ?_
      refine gf_X10_19 (pc := 15) C dX10_seesOf_15 ?_
      refine kj_bipush (pc := 18) C (v := 20) dX10_seesOf_18 cb_20 ?_
      refine kj_ild1 (pc := 20) C dX10_seesOf_20 ?_
      refine kj_imul (pc := 21) C dX10_seesOf_21 ?_
      refine kj_ild4 (pc := 22) C dX10_seesOf_22 ?_
      refine kj_iadd (pc := 24) C dX10_seesOf_24 ?_
      obtain ⟨x3, ex3, h⟩ := of_lt h
      refine kj_ni ex3 ?_
      obtain ⟨c2, h⟩ := of_gd h
      refine kj_iald2 (pc := 25) C ia_27_4 c2 dX10_seesOf_25 ?_
      refine kj_ald0 (pc := 26) C dX10_seesOf_26 ?_
      refine gf_X10_19 (pc := 27) C dX10_seesOf_27 ?_
      refine kj_bipush (pc := 30) C (v := 20) dX10_seesOf_30 cb_20 ?_
      refine kj_ild1 (pc := 32) C dX10_seesOf_32 ?_
      refine kj_imul (pc := 33) C dX10_seesOf_33 ?_
      refine kj_ild2 (pc := 34) C dX10_seesOf_34 ?_
      refine kj_iadd (pc := 35) C dX10_seesOf_35 ?_
      obtain ⟨x5, ex5, h⟩ := of_lt h
      refine kj_ni ex5 ?_
      obtain ⟨c4, h⟩ := of_gd h
      refine kj_iald2 (pc := 36) C ia_27_4 c4 dX10_seesOf_36 ?_
      refine kj_isub (pc := 37) C dX10_seesOf_37 ?_
      obtain ⟨x6, ex6, h⟩ := of_lt h
      refine kj_ni ex6 ?_
      refine kj_ist5 (pc := 38) C dX10_seesOf_38 (Nat.le_of_ble_eq_true rfl) rfl ?_
      refine kj_ild3 (pc := 40) C dX10_seesOf_40 ?_
      refine kj_ild4 (pc := 41) C dX10_seesOf_41 ?_
      refine kj_ild2 (pc := 43) C dX10_seesOf_43 ?_
      refine kj_icmp_eq (pc := 44) C dX10_seesOf_44 (tgt := 81) (by decide) (fun c7 => ?_) (fun c7 => ?_)
      · have h := of_pos c7 h
        exact k_X10_seesOf_81 C hr hR ih _ _ _ _ _ _ h
      · have h := of_neg c7 h
        refine kj_ald0 (pc := 47) C dX10_seesOf_47 ?_
        refine gf_X10_28 (pc := 48) C dX10_seesOf_48 ?_
        refine kj_ild4 (pc := 51) C dX10_seesOf_51 ?_
        obtain ⟨q8, eq8, h⟩ := of_bind h
        refine kj_callS1 (pc := 53) C (ct_X10_has eq8) (Nat.le_of_ble_eq_true rfl) mi_X10_has ml_X10_74 rfl as2 (Nat.le_of_ble_eq_true rfl) dX10_seesOf_53 ?_
        refine kj_if_eq (pc := 56) C dX10_seesOf_56 (tgt := 81) (by decide) (fun c9 => ?_) (fun c9 => ?_)
        · have h := of_pos c9 h
          exact k_X10_seesOf_81 C hr hR ih _ _ _ _ _ _ h
        · have h := of_neg c9 h
          refine kj_ild5 (pc := 59) C dX10_seesOf_59 ?_
          refine kj_i2l (pc := 61) C dX10_seesOf_61 ?_
          refine kj_ldc2 (pc := 62) C cn_X10_102 dX10_seesOf_62 ?_
          refine kj_ldc2 (pc := 65) C cn_X10_104 dX10_seesOf_65 ?_
          obtain ⟨q10, eq10, h⟩ := of_bind h
          refine kj_callS1 (pc := 68) C (ct_X10_in eq10) (Nat.le_of_ble_eq_true rfl) mi_X10_in ml_X10_59 rfl as3 (Nat.le_of_ble_eq_true rfl) dX10_seesOf_68 ?_
          refine kj_if_eq (pc := 71) C dX10_seesOf_71 (tgt := 81) (by decide) (fun c11 => ?_) (fun c11 => ?_)
          · have h := of_pos c11 h
            exact k_X10_seesOf_81 C hr hR ih _ _ _ _ _ _ h
          · have h := of_neg c11 h
            refine kj_iconst (pc := 74) C (v := 1) dX10_seesOf_74 ci_1 ?_
            refine kj_ild4 (pc := 75) C dX10_seesOf_75 ?_
            refine kj_ishl (pc := 77) C dX10_seesOf_77 ?_
            refine kj_goto (pc := 78) C dX10_seesOf_78 (tgt := 82) (by decide) ?_
            exact k_X10_seesOf_82 C hr hR ih _ _ _ _ _ _ _ h
def f_X10_seesOf (v1 : Int32) (v2 : Int32) (M : Mem) : Option (Int32) := f_X10_seesOf_5 M 100 v1 v2 0 0
set_option maxHeartbeats 4000000 in
set_option maxRecDepth 100000 in
theorem ct_X10_seesOf {g : GT} {l : Launch} {v1 : Int32} {v2 : Int32} {M : Mem} {t : Int32} (h : f_X10_seesOf v1 v2 M = some t) : Ct g l 1 yX10_seesOf cX10_seesOf 6 (some .int) [.ref (ga g 27 0), .int v1, .int v2] M (some (.int t)) M := by
  refine ct_of (k := 3) (by decide) (Nat.le_of_ble_eq_true rfl) rfl (fun X C hl hr hR => ?_)
  subst hl
  have C : Cx g X cX10_seesOf RX10 6 1 := C
  unfold f_X10_seesOf at h
  refine kj_iconst (pc := 0) C (v := 0) dX10_seesOf_0 ci_0 ?_
  refine kj_ist3 (pc := 1) C dX10_seesOf_1 (Nat.le_of_ble_eq_true rfl) rfl ?_
  refine kj_iconst (pc := 2) C (v := 0) dX10_seesOf_2 ci_0 ?_
  refine kj_ist4 (pc := 3) C dX10_seesOf_3 (Nat.le_of_ble_eq_true rfl) rfl ?_
  exact k_X10_seesOf_5 C hr hR 100 _ _ _ _ _ h
def f_X10_kindNow_29 (M : Mem) (s0 : Int32) : Option (Int32) := some s0
set_option maxHeartbeats 4000000 in
set_option maxRecDepth 100000 in
theorem k_X10_kindNow_29 {g : GT} {X : XT} {M : Mem} {t : Int32} (C : Cx g X cX10_kindNow RX10 3 1) (hr : (xt X).sig.returnType = some .int) (hR : Rt g X (some (.int t)) M) : ∀ (s0 : Int32) (w0 w1 w2 : Option Value), f_X10_kindNow_29 M s0 = some t → Kj g X 3 29 [w0, w1, w2] [.int s0] M := by
  intro s0 w0 w1 w2 h
  unfold f_X10_kindNow_29 at h
  cases h
  exact kj_iret (pc := 29) C hr hR dX10_kindNow_29
def f_X10_kindNow (v1 : Int32) (v2 : Int32) (M : Mem) : Option (Int32) := lt_ (((20 : Int32) * v1) + (18 : Int32)) (fun x2 => if ¬ (x2 < 0 ∨ 40 ≤ x2.toNatClampNeg) then (f_X10_has (M.1 27 4 x2.toNatClampNeg) v2 M).bind (fun q3 => if q3 = 0 then if ¬ (v2 < 0 ∨ 6 ≤ v2.toNatClampNeg) then f_X10_kindNow_29 M (M.1 27 3 v2.toNatClampNeg) else none else f_X10_kindNow_29 M 1) else none)
set_option maxHeartbeats 4000000 in
set_option maxRecDepth 100000 in
theorem ct_X10_kindNow {g : GT} {l : Launch} {v1 : Int32} {v2 : Int32} {M : Mem} {t : Int32} (h : f_X10_kindNow v1 v2 M = some t) : Ct g l 1 yX10_kindNow cX10_kindNow 3 (some .int) [.ref (ga g 27 0), .int v1, .int v2] M (some (.int t)) M := by
  refine ct_of (k := 0) (by decide) (Nat.le_of_ble_eq_true rfl) rfl (fun X C hl hr hR => ?_)
  subst hl
  have C : Cx g X cX10_kindNow RX10 3 1 := C
  unfold f_X10_kindNow at h
  refine kj_ald0 (pc := 0) C dX10_kindNow_0 ?_
  refine gf_X10_19 (pc := 1) C dX10_kindNow_1 ?_
  refine kj_bipush (pc := 4) C (v := 20) dX10_kindNow_4 cb_20 ?_
  refine kj_ild1 (pc := 6) C dX10_kindNow_6 ?_
  refine kj_imul (pc := 7) C dX10_kindNow_7 ?_
  refine kj_bipush (pc := 8) C (v := 18) dX10_kindNow_8 cb_18 ?_
  refine kj_iadd (pc := 10) C dX10_kindNow_10 ?_
  obtain ⟨x2, ex2, h⟩ := of_lt h
  refine kj_ni ex2 ?_
  obtain ⟨c1, h⟩ := of_gd h
  refine kj_iald2 (pc := 11) C ia_27_4 c1 dX10_kindNow_11 ?_
  refine kj_ild2 (pc := 12) C dX10_kindNow_12 ?_
  obtain ⟨q3, eq3, h⟩ := of_bind h
  refine kj_callS1 (pc := 13) C (ct_X10_has eq3) (Nat.le_of_ble_eq_true rfl) mi_X10_has ml_X10_74 rfl as2 (Nat.le_of_ble_eq_true rfl) dX10_kindNow_13 ?_
  refine kj_if_eq (pc := 16) C dX10_kindNow_16 (tgt := 23) (by decide) (fun c4 => ?_) (fun c4 => ?_)
  · have h := of_pos c4 h
    refine kj_ald0 (pc := 23) C dX10_kindNow_23 ?_
    refine gf_X10_16 (pc := 24) C dX10_kindNow_24 ?_
    refine kj_ild2 (pc := 27) C dX10_kindNow_27 ?_
    obtain ⟨c5, h⟩ := of_gd h
    refine kj_iald2 (pc := 28) C ia_27_3 c5 dX10_kindNow_28 ?_
    exact k_X10_kindNow_29 C hr hR _ _ _ _ h
  · have h := of_neg c4 h
    refine kj_iconst (pc := 19) C (v := 1) dX10_kindNow_19 ci_1 ?_
    refine kj_goto (pc := 20) C dX10_kindNow_20 (tgt := 29) (by decide) ?_
    exact k_X10_kindNow_29 C hr hR _ _ _ _ h
def f_X10_enviesOf_113 (M : Mem) (k63 : Int32 → Int32 → Int32 → Int32 → Int32 → Option (Int32)) (v4 : Int32) (v5 : Int32) (v6 : Int32) (v7 : Int32) (v8 : Int32) : Option (Int32) := lt_ (v8 + 1) (fun x1 => k63 v4 v5 v6 v7 x1)
set_option maxHeartbeats 4000000 in
set_option maxRecDepth 100000 in
theorem k_X10_enviesOf_113 {g : GT} {X : XT} {M : Mem} {k63 : Int32 → Int32 → Int32 → Int32 → Int32 → Option (Int32)} {t : Int32} (C : Cx g X cX10_enviesOf RX10 9 2) (hr : (xt X).sig.returnType = some .int) (hR : Rt g X (some (.int t)) M) (hk63 : ∀ (v4 : Int32) (v5 : Int32) (v6 : Int32) (v7 : Int32) (v8 : Int32) (w1 w2 w3 : Option Value), k63 v4 v5 v6 v7 v8 = some t → Kj g X 9 63 [some (.ref (ga g 27 0)), w1, w2, w3, some (.int v4), some (.int v5), some (.int v6), some (.int v7), some (.int v8)] [] M) : ∀ (v4 : Int32) (v5 : Int32) (v6 : Int32) (v7 : Int32) (v8 : Int32) (w1 w2 w3 : Option Value), f_X10_enviesOf_113 M k63 v4 v5 v6 v7 v8 = some t → Kj g X 9 113 [some (.ref (ga g 27 0)), w1, w2, w3, some (.int v4), some (.int v5), some (.int v6), some (.int v7), some (.int v8)] [] M := by
  intro v4 v5 v6 v7 v8 w1 w2 w3 h
  unfold f_X10_enviesOf_113 at h
  obtain ⟨x1, ex1, h⟩ := of_lt h
  refine kj_iinc8 (pc := 113) C (v := x1) dX10_enviesOf_113 (Nat.le_of_ble_eq_true rfl) rfl (by rw [ex1, ci_1]) ?_
  refine kj_goto (pc := 116) C dX10_enviesOf_116 (tgt := 63) (by decide) ?_
  exact hk63 _ _ _ _ _ _ _ _ h
def f_X10_enviesOf_63 (M : Mem) (n : Nat) (v4 : Int32) (v5 : Int32) (v6 : Int32) (v7 : Int32) (v8 : Int32) : Option (Int32) := match n with
  | 0 => none
  | n + 1 => if (M.1 27 0 0) ≤ v8 then some v6 else (f_X10_has v5 v8 M).bind (fun q2 => if q2 = 0 then f_X10_enviesOf_113 M (f_X10_enviesOf_63 M n) v4 v5 v6 v7 v8 else lt_ (v4 + v8) (fun x5 => if ¬ (x5 < 0 ∨ 40 ≤ x5.toNatClampNeg) then if (M.1 27 4 x5.toNatClampNeg) ≤ v7 then f_X10_enviesOf_113 M (f_X10_enviesOf_63 M n) v4 v5 v6 v7 v8 else lt_ (v4 + v8) (fun x8 => if ¬ (x8 < 0 ∨ 40 ≤ x8.toNatClampNeg) then lt_ (M.1 27 4 x8.toNatClampNeg) (fun x9 => f_X10_enviesOf_113 M (f_X10_enviesOf_63 M n) v4 v5 v8 x9 v8) else none) else none))
set_option maxHeartbeats 4000000 in
set_option maxRecDepth 100000 in
theorem k_X10_enviesOf_63 {g : GT} {X : XT} {M : Mem} {t : Int32} (C : Cx g X cX10_enviesOf RX10 9 2) (hr : (xt X).sig.returnType = some .int) (hR : Rt g X (some (.int t)) M) (n : Nat) : ∀ (v4 : Int32) (v5 : Int32) (v6 : Int32) (v7 : Int32) (v8 : Int32) (w1 w2 w3 : Option Value), f_X10_enviesOf_63 M n v4 v5 v6 v7 v8 = some t → Kj g X 9 63 [some (.ref (ga g 27 0)), w1, w2, w3, some (.int v4), some (.int v5), some (.int v6), some (.int v7), some (.int v8)] [] M := by
  induction n with
  | zero => intro v4 v5 v6 v7 v8 w1 w2 w3 h; rw [f_X10_enviesOf_63] at h; cases h
  | succ n ih =>
    intro v4 v5 v6 v7 v8 w1 w2 w3 h
    rw [f_X10_enviesOf_63] at h
    refine kj_ild8 (pc := 63) C dX10_enviesOf_63 ?_
    refine kj_ald0 (pc := 65) C dX10_enviesOf_65 ?_
    refine gf_X10_96 (pc := 66) C dX10_enviesOf_66 ?_
    refine kj_icmp_ge (pc := 69) C dX10_enviesOf_69 (tgt := 119) (by decide) (fun c1 => ?_) (fun c1 => ?_)
    · have h := of_pos c1 h
      refine kj_ild6 (pc := 119) C dX10_enviesOf_119 ?_
      cases h
      exact kj_iret (pc := 121) C hr hR dX10_enviesOf_121
    · have h := of_neg c1 h
      refine kj_ild5 (pc := 72) C dX10_enviesOf_72 ?_
      refine kj_ild8 (pc := 74) C dX10_enviesOf_74 ?_
      obtain ⟨q2, eq2, h⟩ := of_bind h
      refine kj_callS1 (pc := 76) C (ct_X10_has eq2) (Nat.le_of_ble_eq_true rfl) mi_X10_has ml_X10_74 rfl as2 (Nat.le_of_ble_eq_true rfl) dX10_enviesOf_76 ?_
      refine kj_if_eq (pc := 79) C dX10_enviesOf_79 (tgt := 113) (by decide) (fun c3 => ?_) (fun c3 => ?_)
      · have h := of_pos c3 h
        exact k_X10_enviesOf_113 C hr hR ih _ _ _ _ _ _ _ _ h
      · have h := of_neg c3 h
        refine kj_ald0 (pc := 82) C dX10_enviesOf_82 ?_
        refine gf_X10_19 (pc := 83) C dX10_enviesOf_83 ?_
        refine kj_ild4 (pc := 86) C dX10_enviesOf_86 ?_
        refine kj_ild8 (pc := 88) C dX10_enviesOf_88 ?_
        refine kj_iadd (pc := 90) C dX10_enviesOf_90 ?_
        obtain ⟨x5, ex5, h⟩ := of_lt h
        refine kj_ni ex5 ?_
        obtain ⟨c4, h⟩ := of_gd h
        refine kj_iald2 (pc := 91) C ia_27_4 c4 dX10_enviesOf_91 ?_
        refine kj_ild7 (pc := 92) C dX10_enviesOf_92 ?_
        refine kj_icmp_le (pc := 94) C dX10_enviesOf_94 (tgt := 113) (by decide) (fun c6 => ?_) (fun c6 => ?_)
        · have h := of_pos c6 h
          exact k_X10_enviesOf_113 C hr hR ih _ _ _ _ _ _ _ _ h
        · have h := of_neg c6 h
          refine kj_ild8 (pc := 97) C dX10_enviesOf_97 ?_
          refine kj_ist6 (pc := 99) C dX10_enviesOf_99 (Nat.le_of_ble_eq_true rfl) rfl ?_
          refine kj_ald0 (pc := 101) C dX10_enviesOf_101 ?_
          refine gf_X10_19 (pc := 102) C dX10_enviesOf_102 ?_
          refine kj_ild4 (pc := 105) C dX10_enviesOf_105 ?_
          refine kj_ild8 (pc := 107) C dX10_enviesOf_107 ?_
          refine kj_iadd (pc := 109) C dX10_enviesOf_109 ?_
          obtain ⟨x8, ex8, h⟩ := of_lt h
          refine kj_ni ex8 ?_
          obtain ⟨c7, h⟩ := of_gd h
          refine kj_iald2 (pc := 110) C ia_27_4 c7 dX10_enviesOf_110 ?_
          obtain ⟨x9, ex9, h⟩ := of_lt h
          refine kj_ni ex9 ?_
          refine kj_ist7 (pc := 111) C dX10_enviesOf_111 (Nat.le_of_ble_eq_true rfl) rfl ?_
          exact k_X10_enviesOf_113 C hr hR ih _ _ _ _ _ _ _ _ h
def f_X10_enviesOf_34 (M : Mem) (v1 : Int32) (v2 : Int32) (s0 : Int32) (s1 : Int32) : Option (Int32) := lt_ (s0 + s1) (fun x1 => (f_X10_seesOf v1 v2 M).bind (fun q2 => lt_ (x1 + v2) (fun x4 => if ¬ (x4 < 0 ∨ 40 ≤ x4.toNatClampNeg) then lt_ (M.1 27 4 x4.toNatClampNeg) (fun x5 => f_X10_enviesOf_63 M 100 x1 q2 (-9) x5 0) else none)))
set_option maxHeartbeats 4000000 in
set_option maxRecDepth 100000 in
theorem k_X10_enviesOf_34 {g : GT} {X : XT} {M : Mem} {t : Int32} (C : Cx g X cX10_enviesOf RX10 9 2) (hr : (xt X).sig.returnType = some .int) (hR : Rt g X (some (.int t)) M) : ∀ (v1 : Int32) (v2 : Int32) (s0 : Int32) (s1 : Int32) (w3 w4 w5 w6 w7 w8 : Option Value), f_X10_enviesOf_34 M v1 v2 s0 s1 = some t → Kj g X 9 34 [some (.ref (ga g 27 0)), some (.int v1), some (.int v2), w3, w4, w5, w6, w7, w8] [.int s1, .int s0] M := by
  intro v1 v2 s0 s1 w3 w4 w5 w6 w7 w8 h
  unfold f_X10_enviesOf_34 at h
  refine kj_iadd (pc := 34) C dX10_enviesOf_34 ?_
  obtain ⟨x1, ex1, h⟩ := of_lt h
  refine kj_ni ex1 ?_
  refine kj_ist4w (pc := 35) C dX10_enviesOf_35 (Nat.le_of_ble_eq_true rfl) ?_
  refine kj_ald0 (pc := 37) C dX10_enviesOf_37 ?_
  refine kj_ild1 (pc := 38) C dX10_enviesOf_38 ?_
  refine kj_ild2 (pc := 39) C dX10_enviesOf_39 ?_
  obtain ⟨q2, eq2, h⟩ := of_bind h
  refine kj_callV1 (pc := 40) C (ct_X10_seesOf eq2) (Nat.le_of_ble_eq_true rfl) mi_X10_seesOf ml_X10_110 rc_27 rfl rfl ar2 (Nat.le_of_ble_eq_true rfl) dX10_enviesOf_40 ?_
  refine kj_ist5 (pc := 43) C dX10_enviesOf_43 (Nat.le_of_ble_eq_true rfl) rfl ?_
  refine kj_bipush (pc := 45) C (v := (-9)) dX10_enviesOf_45 cb_m9 ?_
  refine kj_ist6 (pc := 47) C dX10_enviesOf_47 (Nat.le_of_ble_eq_true rfl) rfl ?_
  refine kj_ald0 (pc := 49) C dX10_enviesOf_49 ?_
  refine gf_X10_19 (pc := 50) C dX10_enviesOf_50 ?_
  refine kj_ild4 (pc := 53) C dX10_enviesOf_53 ?_
  refine kj_ild2 (pc := 55) C dX10_enviesOf_55 ?_
  refine kj_iadd (pc := 56) C dX10_enviesOf_56 ?_
  obtain ⟨x4, ex4, h⟩ := of_lt h
  refine kj_ni ex4 ?_
  obtain ⟨c3, h⟩ := of_gd h
  refine kj_iald2 (pc := 57) C ia_27_4 c3 dX10_enviesOf_57 ?_
  obtain ⟨x5, ex5, h⟩ := of_lt h
  refine kj_ni ex5 ?_
  refine kj_ist7 (pc := 58) C dX10_enviesOf_58 (Nat.le_of_ble_eq_true rfl) rfl ?_
  refine kj_iconst (pc := 60) C (v := 0) dX10_enviesOf_60 ci_0 ?_
  refine kj_ist8 (pc := 61) C dX10_enviesOf_61 (Nat.le_of_ble_eq_true rfl) rfl ?_
  exact k_X10_enviesOf_63 C hr hR 100 _ _ _ _ _ _ _ _ h
def f_X10_enviesOf_19 (M : Mem) (v1 : Int32) (v2 : Int32) (v3 : Int32) : Option (Int32) := if v3 = 0 then f_X10_enviesOf_34 M v1 v2 ((20 : Int32) * v1) 6 else f_X10_enviesOf_34 M v1 v2 ((20 : Int32) * v1) 12
set_option maxHeartbeats 4000000 in
set_option maxRecDepth 100000 in
theorem k_X10_enviesOf_19 {g : GT} {X : XT} {M : Mem} {t : Int32} (C : Cx g X cX10_enviesOf RX10 9 2) (hr : (xt X).sig.returnType = some .int) (hR : Rt g X (some (.int t)) M) : ∀ (v1 : Int32) (v2 : Int32) (v3 : Int32) (w4 w5 w6 w7 w8 : Option Value), f_X10_enviesOf_19 M v1 v2 v3 = some t → Kj g X 9 19 [some (.ref (ga g 27 0)), some (.int v1), some (.int v2), some (.int v3), w4, w5, w6, w7, w8] [] M := by
  intro v1 v2 v3 w4 w5 w6 w7 w8 h
  unfold f_X10_enviesOf_19 at h
  refine kj_bipush (pc := 19) C (v := 20) dX10_enviesOf_19 cb_20 ?_
  refine kj_ild1 (pc := 21) C dX10_enviesOf_21 ?_
  refine kj_imul (pc := 22) C dX10_enviesOf_22 ?_
  refine kj_ild3 (pc := 23) C dX10_enviesOf_23 ?_
  refine kj_if_ne (pc := 24) C dX10_enviesOf_24 (tgt := 32) (by decide) (fun c1 => ?_) (fun c1 => ?_)
  · have h := of_neg c1 h
    refine kj_bipush (pc := 32) C (v := 12) dX10_enviesOf_32 cb_12 ?_
    exact k_X10_enviesOf_34 C hr hR _ _ _ _ _ _ _ _ _ _ h
  · have h := of_pos c1 h
    refine kj_bipush (pc := 27) C (v := 6) dX10_enviesOf_27 cb_6 ?_
    refine kj_goto (pc := 29) C dX10_enviesOf_29 (tgt := 34) (by decide) ?_
    exact k_X10_enviesOf_34 C hr hR _ _ _ _ _ _ _ _ _ _ h
def f_X10_enviesOf (v1 : Int32) (v2 : Int32) (M : Mem) : Option (Int32) := (f_X10_kindNow v1 v2 M).bind (fun q1 => if q1 = 0 then f_X10_enviesOf_19 M v1 v2 q1 else if q1 = 3 then f_X10_enviesOf_19 M v1 v2 q1 else some ((-9) : Int32))
set_option maxHeartbeats 4000000 in
set_option maxRecDepth 100000 in
theorem ct_X10_enviesOf {g : GT} {l : Launch} {v1 : Int32} {v2 : Int32} {M : Mem} {t : Int32} (h : f_X10_enviesOf v1 v2 M = some t) : Ct g l 2 yX10_enviesOf cX10_enviesOf 9 (some .int) [.ref (ga g 27 0), .int v1, .int v2] M (some (.int t)) M := by
  refine ct_of (k := 6) (by decide) (Nat.le_of_ble_eq_true rfl) rfl (fun X C hl hr hR => ?_)
  subst hl
  have C : Cx g X cX10_enviesOf RX10 9 2 := C
  unfold f_X10_enviesOf at h
  refine kj_ald0 (pc := 0) C dX10_enviesOf_0 ?_
  refine kj_ild1 (pc := 1) C dX10_enviesOf_1 ?_
  refine kj_ild2 (pc := 2) C dX10_enviesOf_2 ?_
  obtain ⟨q1, eq1, h⟩ := of_bind h
  refine kj_callV1 (pc := 3) C (ct_X10_kindNow eq1) (Nat.le_of_ble_eq_true rfl) mi_X10_kindNow ml_X10_106 rc_27 rfl rfl ar2 (Nat.le_of_ble_eq_true rfl) dX10_enviesOf_3 ?_
  refine kj_ist3 (pc := 6) C dX10_enviesOf_6 (Nat.le_of_ble_eq_true rfl) rfl ?_
  refine kj_ild3 (pc := 7) C dX10_enviesOf_7 ?_
  refine kj_if_eq (pc := 8) C dX10_enviesOf_8 (tgt := 19) (by decide) (fun c2 => ?_) (fun c2 => ?_)
  · have h := of_pos c2 h
    exact k_X10_enviesOf_19 C hr hR _ _ _ _ _ _ _ _ h
  · have h := of_neg c2 h
    refine kj_ild3 (pc := 11) C dX10_enviesOf_11 ?_
    refine kj_iconst (pc := 12) C (v := 3) dX10_enviesOf_12 ci_3 ?_
    refine kj_icmp_eq (pc := 13) C dX10_enviesOf_13 (tgt := 19) (by decide) (fun c3 => ?_) (fun c3 => ?_)
    · have h := of_pos c3 h
      exact k_X10_enviesOf_19 C hr hR _ _ _ _ _ _ _ _ h
    · have h := of_neg c3 h
      refine kj_bipush (pc := 16) C (v := (-9)) dX10_enviesOf_16 cb_m9 ?_
      cases h
      exact kj_iret (pc := 18) C hr hR dX10_enviesOf_18
def f_X10_noteThen_119 (M : Mem) (s0 : Int32) : Option (Int32) := some s0
set_option maxHeartbeats 4000000 in
set_option maxRecDepth 100000 in
theorem k_X10_noteThen_119 {g : GT} {X : XT} {M : Mem} {t : Int32} (C : Cx g X cX10_noteThen RX10 7 3) (hr : (xt X).sig.returnType = some .int) (hR : Rt g X (some (.int t)) M) : ∀ (s0 : Int32) (w0 w1 w2 w3 w4 w5 w6 : Option Value), f_X10_noteThen_119 M s0 = some t → Kj g X 7 119 [w0, w1, w2, w3, w4, w5, w6] [.int s0] M := by
  intro s0 w0 w1 w2 w3 w4 w5 w6 h
  unfold f_X10_noteThen_119 at h
  cases h
  exact kj_iret (pc := 119) C hr hR dX10_noteThen_119
def f_X10_noteThen_46 (M : Mem) (s0 : Int32) : Option (Int32) := some s0
set_option maxHeartbeats 4000000 in
set_option maxRecDepth 100000 in
theorem k_X10_noteThen_46 {g : GT} {X : XT} {M : Mem} {t : Int32} (C : Cx g X cX10_noteThen RX10 7 3) (hr : (xt X).sig.returnType = some .int) (hR : Rt g X (some (.int t)) M) : ∀ (s0 : Int32) (w0 w1 w2 w3 w4 w5 w6 : Option Value), f_X10_noteThen_46 M s0 = some t → Kj g X 7 46 [w0, w1, w2, w3, w4, w5, w6] [.int s0] M := by
  intro s0 w0 w1 w2 w3 w4 w5 w6 h
  unfold f_X10_noteThen_46 at h
  cases h
  exact kj_iret (pc := 46) C hr hR dX10_noteThen_46
def f_X10_noteThen (v1 : Int32) (v2 : Int32) (M : Mem) : Option (Int32) := (f_X10_enviesOf v1 v2 M).bind (fun q1 => if q1 = (-9) then (f_X10_kindNow v1 v2 M).bind (fun q14 => if q14 = 1 then lt_ ((((20 : Int32) * v1) + (12 : Int32)) + v2) (fun x18 => if ¬ (x18 < 0 ∨ 40 ≤ x18.toNatClampNeg) then f_X10_noteThen_46 M (M.1 27 4 x18.toNatClampNeg) else none) else if ¬ (v2 < 0 ∨ 6 ≤ v2.toNatClampNeg) then f_X10_noteThen_46 M (M.1 27 1 v2.toNatClampNeg) else none) else lt_ ((((20 : Int32) * v1) + (12 : Int32)) + q1) (fun x4 => if ¬ (x4 < 0 ∨ 40 ≤ x4.toNatClampNeg) then lt_ (M.1 27 4 x4.toNatClampNeg) (fun x5 => if ¬ (v2 < 0 ∨ 6 ≤ v2.toNatClampNeg) then if ¬ (v2 < 0 ∨ 6 ≤ v2.toNatClampNeg) then lt_ ((M.1 27 1 v2.toNatClampNeg) + (M.1 27 2 v2.toNatClampNeg)) (fun x8 => if ¬ (v2 < 0 ∨ 6 ≤ v2.toNatClampNeg) then if ¬ (v2 < 0 ∨ 6 ≤ v2.toNatClampNeg) then lt_ ((M.1 27 1 v2.toNatClampNeg) - (M.1 27 2 v2.toNatClampNeg)) (fun x11 => if x5 ≤ x8 then if x11 ≤ x5 then f_X10_noteThen_119 M x5 else f_X10_noteThen_119 M x11 else f_X10_noteThen_119 M x8) else none else none) else none else none) else none))
set_option maxHeartbeats 4000000 in
set_option maxRecDepth 100000 in
theorem ct_X10_noteThen {g : GT} {l : Launch} {v1 : Int32} {v2 : Int32} {M : Mem} {t : Int32} (h : f_X10_noteThen v1 v2 M = some t) : Ct g l 3 yX10_noteThen cX10_noteThen 7 (some .int) [.ref (ga g 27 0), .int v1, .int v2] M (some (.int t)) M := by
  refine ct_of (k := 4) (by decide) (Nat.le_of_ble_eq_true rfl) rfl (fun X C hl hr hR => ?_)
  subst hl
  have C : Cx g X cX10_noteThen RX10 7 3 := C
  unfold f_X10_noteThen at h
  refine kj_ald0 (pc := 0) C dX10_noteThen_0 ?_
  refine kj_ild1 (pc := 1) C dX10_noteThen_1 ?_
  refine kj_ild2 (pc := 2) C dX10_noteThen_2 ?_
  obtain ⟨q1, eq1, h⟩ := of_bind h
  refine kj_callV1 (pc := 3) C (ct_X10_enviesOf eq1) (Nat.le_of_ble_eq_true rfl) mi_X10_enviesOf ml_X10_113 rc_27 rfl rfl ar2 (Nat.le_of_ble_eq_true rfl) dX10_noteThen_3 ?_
  refine kj_ist3 (pc := 6) C dX10_noteThen_6 (Nat.le_of_ble_eq_true rfl) rfl ?_
  refine kj_ild3 (pc := 7) C dX10_noteThen_7 ?_
  refine kj_bipush (pc := 8) C (v := (-9)) dX10_noteThen_8 cb_m9 ?_
  refine kj_icmp_ne (pc := 10) C dX10_noteThen_10 (tgt := 47) (by decide) (fun c2 => ?_) (fun c2 => ?_)
  · have h := of_neg c2 h
    refine kj_ald0 (pc := 47) C dX10_noteThen_47 ?_
    refine gf_X10_19 (pc := 48) C dX10_noteThen_48 ?_
    refine kj_bipush (pc := 51) C (v := 20) dX10_noteThen_51 cb_20 ?_
    refine kj_ild1 (pc := 53) C dX10_noteThen_53 ?_
    refine kj_imul (pc := 54) C dX10_noteThen_54 ?_
    refine kj_bipush (pc := 55) C (v := 12) dX10_noteThen_55 cb_12 ?_
    refine kj_iadd (pc := 57) C dX10_noteThen_57 ?_
    refine kj_ild3 (pc := 58) C dX10_noteThen_58 ?_
    refine kj_iadd (pc := 59) C dX10_noteThen_59 ?_
    obtain ⟨x4, ex4, h⟩ := of_lt h
    refine kj_ni ex4 ?_
    obtain ⟨c3, h⟩ := of_gd h
    refine kj_iald2 (pc := 60) C ia_27_4 c3 dX10_noteThen_60 ?_
    obtain ⟨x5, ex5, h⟩ := of_lt h
    refine kj_ni ex5 ?_
    refine kj_ist4 (pc := 61) C dX10_noteThen_61 (Nat.le_of_ble_eq_true rfl) rfl ?_
    refine kj_ald0 (pc := 63) C dX10_noteThen_63 ?_
    refine gf_X10_7 (pc := 64) C dX10_noteThen_64 ?_
    refine kj_ild2 (pc := 67) C dX10_noteThen_67 ?_
    obtain ⟨c6, h⟩ := of_gd h
    refine kj_iald2 (pc := 68) C ia_27_1 c6 dX10_noteThen_68 ?_
    refine kj_ald0 (pc := 69) C dX10_noteThen_69 ?_
    refine gf_X10_13 (pc := 70) C dX10_noteThen_70 ?_
    refine kj_ild2 (pc := 73) C dX10_noteThen_73 ?_
    obtain ⟨c7, h⟩ := of_gd h
    refine kj_iald2 (pc := 74) C ia_27_2 c7 dX10_noteThen_74 ?_
    refine kj_iadd (pc := 75) C dX10_noteThen_75 ?_
    obtain ⟨x8, ex8, h⟩ := of_lt h
    refine kj_ni ex8 ?_
    refine kj_ist5 (pc := 76) C dX10_noteThen_76 (Nat.le_of_ble_eq_true rfl) rfl ?_
    refine kj_ald0 (pc := 78) C dX10_noteThen_78 ?_
    refine gf_X10_7 (pc := 79) C dX10_noteThen_79 ?_
    refine kj_ild2 (pc := 82) C dX10_noteThen_82 ?_
    obtain ⟨c9, h⟩ := of_gd h
    refine kj_iald2 (pc := 83) C ia_27_1 c9 dX10_noteThen_83 ?_
    refine kj_ald0 (pc := 84) C dX10_noteThen_84 ?_
    refine gf_X10_13 (pc := 85) C dX10_noteThen_85 ?_
    refine kj_ild2 (pc := 88) C dX10_noteThen_88 ?_
    obtain ⟨c10, h⟩ := of_gd h
    refine kj_iald2 (pc := 89) C ia_27_2 c10 dX10_noteThen_89 ?_
    refine kj_isub (pc := 90) C dX10_noteThen_90 ?_
    obtain ⟨x11, ex11, h⟩ := of_lt h
    refine kj_ni ex11 ?_
    refine kj_ist6 (pc := 91) C dX10_noteThen_91 (Nat.le_of_ble_eq_true rfl) rfl ?_
    refine kj_ild4 (pc := 93) C dX10_noteThen_93 ?_
    refine kj_ild5 (pc := 95) C dX10_noteThen_95 ?_
    refine kj_icmp_le (pc := 97) C dX10_noteThen_97 (tgt := 105) (by decide) (fun c12 => ?_) (fun c12 => ?_)
    · have h := of_pos c12 h
      refine kj_ild4 (pc := 105) C dX10_noteThen_105 ?_
      refine kj_ild6 (pc := 107) C dX10_noteThen_107 ?_
      refine kj_icmp_ge (pc := 109) C dX10_noteThen_109 (tgt := 117) (by decide) (fun c13 => ?_) (fun c13 => ?_)
      · have h := of_pos c13 h
        refine kj_ild4 (pc := 117) C dX10_noteThen_117 ?_
        exact k_X10_noteThen_119 C hr hR _ _ _ _ _ _ _ _ h
      · have h := of_neg c13 h
        refine kj_ild6 (pc := 112) C dX10_noteThen_112 ?_
        refine kj_goto (pc := 114) C dX10_noteThen_114 (tgt := 119) (by decide) ?_
        exact k_X10_noteThen_119 C hr hR _ _ _ _ _ _ _ _ h
    · have h := of_neg c12 h
      refine kj_ild5 (pc := 100) C dX10_noteThen_100 ?_
      refine kj_goto (pc := 102) C dX10_noteThen_102 (tgt := 119) (by decide) ?_
      exact k_X10_noteThen_119 C hr hR _ _ _ _ _ _ _ _ h
  · have h := of_pos c2 h
    refine kj_ald0 (pc := 13) C dX10_noteThen_13 ?_
    refine kj_ild1 (pc := 14) C dX10_noteThen_14 ?_
    refine kj_ild2 (pc := 15) C dX10_noteThen_15 ?_
    obtain ⟨q14, eq14, h⟩ := of_bind h
    refine kj_callV1 (pc := 16) C (ct_X10_kindNow eq14) (Nat.le_of_ble_eq_true rfl) mi_X10_kindNow ml_X10_106 rc_27 rfl rfl ar2 (Nat.le_of_ble_eq_true rfl) dX10_noteThen_16 ?_
    refine kj_iconst (pc := 19) C (v := 1) dX10_noteThen_19 ci_1 ?_
    refine kj_icmp_ne (pc := 20) C dX10_noteThen_20 (tgt := 40) (by decide) (fun c15 => ?_) (fun c15 => ?_)
    · have h := of_neg c15 h
      refine kj_ald0 (pc := 40) C dX10_noteThen_40 ?_
      refine gf_X10_7 (pc := 41) C dX10_noteThen_41 ?_
      refine kj_ild2 (pc := 44) C dX10_noteThen_44 ?_
      obtain ⟨c16, h⟩ := of_gd h
      refine kj_iald2 (pc := 45) C ia_27_1 c16 dX10_noteThen_45 ?_
      exact k_X10_noteThen_46 C hr hR _ _ _ _ _ _ _ _ h
    · have h := of_pos c15 h
      refine kj_ald0 (pc := 23) C dX10_noteThen_23 ?_
      refine gf_X10_19 (pc := 24) C dX10_noteThen_24 ?_
      refine kj_bipush (pc := 27) C (v := 20) dX10_noteThen_27 cb_20 ?_
      refine kj_ild1 (pc := 29) C dX10_noteThen_29 ?_
      refine kj_imul (pc := 30) C dX10_noteThen_30 ?_
      refine kj_bipush (pc := 31) C (v := 12) dX10_noteThen_31 cb_12 ?_
      refine kj_iadd (pc := 33) C dX10_noteThen_33 ?_
      refine kj_ild2 (pc := 34) C dX10_noteThen_34 ?_
      refine kj_iadd (pc := 35) C dX10_noteThen_35 ?_
      obtain ⟨x18, ex18, h⟩ := of_lt h
      refine kj_ni ex18 ?_
      obtain ⟨c17, h⟩ := of_gd h
      refine kj_iald2 (pc := 36) C ia_27_4 c17 dX10_noteThen_36 ?_
      refine kj_goto (pc := 37) C dX10_noteThen_37 (tgt := 46) (by decide) ?_
      exact k_X10_noteThen_46 C hr hR _ _ _ _ _ _ _ _ h
