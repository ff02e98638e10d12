def f_X10_unison_6 (n : Nat) (v1 : Int32) (M : Mem) : Option (Int32 × Mem) := match n with
  | 0 => none
  | n + 1 => if 60 < v1 then some (((-9) : Int32), M) else (f_X10_notesOn 1 M).bind (fun q2 => (f_X10_ones q2 M).bind (fun q3 => if 2 ≤ q3 then (f_X10_passOn 1 M).bind (fun q5 => lt_ (v1 + 1) (fun x6 => f_X10_unison_6 n x6 q5)) else some (v1, M)))
set_option maxHeartbeats 4000000 in
set_option maxRecDepth 100000 in
theorem k_X10_unison_6 {g : GT} {X : XT} {t : Int32 × Mem} (C : Cx g X cX10_unison RX10 2 5) (hr : (xt X).sig.returnType = some .int) (hR : Rt g X (some (.int t.1)) t.2) (n : Nat) : ∀ (v1 : Int32) (M : Mem), f_X10_unison_6 n v1 M = some t → Kj g X 2 6 [some (.ref (ga g 27 0)), some (.int v1)] [] M := by
  induction n with
  | zero => intro v1 M h; rw [f_X10_unison_6] at h; cases h
  | succ n ih =>
    intro v1 M h
    rw [f_X10_unison_6] at h
    refine kj_ild1 (pc := 6) C dX10_unison_6 ?_
    refine kj_bipush (pc := 7) C (v := 60) dX10_unison_7 cb_60 ?_
    refine kj_icmp_gt (pc := 9) C dX10_unison_9 (tgt := 37) (by decide) (fun c1 => ?_) (fun c1 => ?_)
    · have h := of_pos c1 h
      refine kj_bipush (pc := 37) C (v := (-9)) dX10_unison_37 cb_m9 ?_
      cases h
      exact kj_iret (pc := 39) C hr hR dX10_unison_39
    · have h := of_neg c1 h
      refine kj_ald0 (pc := 12) C dX10_unison_12 ?_
      refine kj_iconst (pc := 13) C (v := 1) dX10_unison_13 ci_1 ?_
      obtain ⟨q2, eq2, h⟩ := of_bind h
      refine kj_callV1 (pc := 14) C (ct_X10_notesOn eq2) (Nat.le_of_ble_eq_true rfl) mi_X10_notesOn ml_X10_137 rc_27 rfl rfl ar1 (Nat.le_of_ble_eq_true rfl) dX10_unison_14 ?_
      obtain ⟨q3, eq3, h⟩ := of_bind h
      refine kj_callS1 (pc := 17) C (ct_X10_ones eq3) (Nat.le_of_ble_eq_true rfl) mi_X10_ones ml_X10_140 rfl as1 (Nat.le_of_ble_eq_true rfl) dX10_unison_17 ?_
      refine kj_iconst (pc := 20) C (v := 2) dX10_unison_20 ci_2 ?_
      refine kj_icmp_ge (pc := 21) C dX10_unison_21 (tgt := 26) (by decide) (fun c4 => ?_) (fun c4 => ?_)
      · have h := of_pos c4 h
        refine kj_ald0 (pc := 26) C dX10_unison_26 ?_
        refine kj_iconst (pc := 27) C (v := 1) dX10_unison_27 ci_1 ?_
        obtain ⟨q5, eq5, h⟩ := of_bind h
        refine kj_callV0 (pc := 28) C (ct_X10_passOn eq5) (Nat.le_of_ble_eq_true rfl) mi_X10_passOn ml_X10_134 rc_27 rfl rfl ar1 (Nat.le_of_ble_eq_true rfl) dX10_unison_28 ?_
        obtain ⟨x6, ex6, h⟩ := of_lt h
        refine kj_iinc1 (pc := 31) C (v := x6) dX10_unison_31 (Nat.le_of_ble_eq_true rfl) rfl (by rw [ex6, ci_1]) ?_
        refine kj_goto (pc := 34) C dX10_unison_34 (tgt := 6) (by decide) ?_
        exact ih _ _ h
      · have h := of_neg c4 h
        refine kj_ild1 (pc := 24) C dX10_unison_24 ?_
        cases h
        exact kj_iret (pc := 25) C hr hR dX10_unison_25
def f_X10_unison (M : Mem) : Option (Int32 × Mem) := (f_X10_layTrial M).bind (fun q1 => f_X10_unison_6 100 0 q1)
set_option maxHeartbeats 4000000 in
set_option maxRecDepth 100000 in
theorem ct_X10_unison {g : GT} {l : Launch} {M : Mem} {t : Int32 × Mem} (h : f_X10_unison M = some t) : Ct g l 5 yX10_unison cX10_unison 2 (some .int) [.ref (ga g 27 0)] M (some (.int t.1)) t.2 := by
  refine ct_of (k := 1) (by decide) (Nat.le_of_ble_eq_true rfl) rfl (fun X C hl hr hR => ?_)
  subst hl
  have C : Cx g X cX10_unison RX10 2 5 := C
  unfold f_X10_unison at h
  refine kj_ald0 (pc := 0) C dX10_unison_0 ?_
  obtain ⟨q1, eq1, h⟩ := of_bind h
  refine kj_callV0 (pc := 1) C (ct_X10_layTrial eq1) (Nat.le_of_ble_eq_true rfl) mi_X10_layTrial ml_X10_155 rc_27 rfl rfl ar0 (Nat.le_of_ble_eq_true rfl) dX10_unison_1 ?_
  refine kj_iconst (pc := 4) C (v := 0) dX10_unison_4 ci_0 ?_
  refine kj_ist1 (pc := 5) C dX10_unison_5 (Nat.le_of_ble_eq_true rfl) rfl ?_
  exact k_X10_unison_6 C hr hR 100 _ _ h
def f_X10_isSung_43 (s0 : Int32) (M : Mem) : Option (Int32 × Mem) := if s0 = 0 ∨ s0 = 1 then some (s0, M) else none
set_option maxHeartbeats 4000000 in
set_option maxRecDepth 100000 in
theorem k_X10_isSung_43 {g : GT} {X : XT} {t : Int32 × Mem} (C : Cx g X cX10_isSung RX10 6 6) (hr : (xt X).sig.returnType = some .boolean) (hR : Rt g X (some (.int t.1)) t.2) : ∀ (s0 : Int32) (M : Mem) (w0 w1 w2 w3 w4 w5 : Option Value), f_X10_isSung_43 s0 M = some t → Kj g X 6 43 [w0, w1, w2, w3, w4, w5] [.int s0] M := by
  intro s0 M w0 w1 w2 w3 w4 w5 h
  unfold f_X10_isSung_43 at h
  obtain ⟨c1, h⟩ := of_gd h
  cases h
  exact kj_zret (pc := 43) C hr c1 hR dX10_isSung_43
def f_X10_isSung_20 (v1 : Int32) (v2 : Int32) (v3 : Int32) (M : Mem) : Option (Int32 × Mem) := (f_X10_goOn v3 M).bind (fun q1 => lt_ ((32 : Int32) + v1) (fun x3 => if ¬ (x3 < 0 ∨ 40 ≤ x3.toNatClampNeg) then if (q1.1 27 4 x3.toNatClampNeg) = v2 then f_X10_isSung_43 1 q1 else f_X10_isSung_43 0 q1 else none))
set_option maxHeartbeats 4000000 in
set_option maxRecDepth 100000 in
theorem k_X10_isSung_20 {g : GT} {X : XT} {t : Int32 × Mem} (C : Cx g X cX10_isSung RX10 6 6) (hr : (xt X).sig.returnType = some .boolean) (hR : Rt g X (some (.int t.1)) t.2) : ∀ (v1 : Int32) (v2 : Int32) (v3 : Int32) (M : Mem) (w4 w5 : Option Value), f_X10_isSung_20 v1 v2 v3 M = some t → Kj g X 6 20 [some (.ref (ga g 27 0)), some (.int v1), some (.int v2), some (.int v3), w4, w5] [] M := by
  intro v1 v2 v3 M w4 w5 h
  unfold f_X10_isSung_20 at h
  refine kj_ald0 (pc := 20) C dX10_isSung_20 ?_
  refine kj_ild3 (pc := 21) C dX10_isSung_21 ?_
  obtain ⟨q1, eq1, h⟩ := of_bind h
  refine kj_callV0 (pc := 22) C (ct_X10_goOn eq1) (Nat.le_of_ble_eq_true rfl) mi_X10_goOn ml_X10_158 rc_27 rfl rfl ar1 (Nat.le_of_ble_eq_true rfl) dX10_isSung_22 ?_
  refine kj_ald0 (pc := 25) C dX10_isSung_25 ?_
  refine gf_X10_19 (pc := 26) C dX10_isSung_26 ?_
  refine kj_bipush (pc := 29) C (v := 32) dX10_isSung_29 cb_32 ?_
  refine kj_ild1 (pc := 31) C dX10_isSung_31 ?_
  refine kj_iadd (pc := 32) C dX10_isSung_32 ?_
  obtain ⟨x3, ex3, h⟩ := of_lt h
  refine kj_ni ex3 ?_
  obtain ⟨c2, h⟩ := of_gd h
  refine kj_iald2 (pc := 33) C ia_27_4 c2 dX10_isSung_33 ?_
  refine kj_ild2 (pc := 34) C dX10_isSung_34 ?_
  refine kj_icmp_ne (pc := 35) C dX10_isSung_35 (tgt := 42) (by decide) (fun c4 => ?_) (fun c4 => ?_)
  · have h := of_neg c4 h
    refine kj_iconst (pc := 42) C (v := 0) dX10_isSung_42 ci_0 ?_
    exact k_X10_isSung_43 C hr hR _ _ _ _ _ _ _ _ h
  · have h := of_pos c4 h
    refine kj_iconst (pc := 38) C (v := 1) dX10_isSung_38 ci_1 ?_
    refine kj_goto (pc := 39) C dX10_isSung_39 (tgt := 43) (by decide) ?_
    exact k_X10_isSung_43 C hr hR _ _ _ _ _ _ _ _ h
def f_X10_isSung (v1 : Int32) (v2 : Int32) (v3 : Int32) (v4 : Int32) (v5 : Int32) (M : Mem) : Option (Int32 × Mem) := (f_X10_layTrial M).bind (fun q1 => if v4 = (-9) then f_X10_isSung_20 v1 v2 v3 q1 else (f_X10_giveOn 1 v4 v5 q1).bind (fun q3 => f_X10_isSung_20 v1 v2 v3 q3))
set_option maxHeartbeats 4000000 in
set_option maxRecDepth 100000 in
theorem ct_X10_isSung {g : GT} {l : Launch} {v1 : Int32} {v2 : Int32} {v3 : Int32} {v4 : Int32} {v5 : Int32} {M : Mem} {t : Int32 × Mem} (h : f_X10_isSung v1 v2 v3 v4 v5 M = some t) : Ct g l 6 yX10_isSung cX10_isSung 6 (some .boolean) [.ref (ga g 27 0), .int v1, .int v2, .int v3, .int v4, .int v5] M (some (.int t.1)) t.2 := by
  refine ct_of (k := 0) (by decide) (Nat.le_of_ble_eq_true rfl) rfl (fun X C hl hr hR => ?_)
  subst hl
  have C : Cx g X cX10_isSung RX10 6 6 := C
  unfold f_X10_isSung at h
  refine kj_ald0 (pc := 0) C dX10_isSung_0 ?_
  obtain ⟨q1, eq1, h⟩ := of_bind h
  refine kj_callV0 (pc := 1) C (ct_X10_layTrial eq1) (Nat.le_of_ble_eq_true rfl) mi_X10_layTrial ml_X10_155 rc_27 rfl rfl ar0 (Nat.le_of_ble_eq_true rfl) dX10_isSung_1 ?_
  refine kj_ild4 (pc := 4) C dX10_isSung_4 ?_
  refine kj_bipush (pc := 6) C (v := (-9)) dX10_isSung_6 cb_m9 ?_
  refine kj_icmp_eq (pc := 8) C dX10_isSung_8 (tgt := 20) (by decide) (fun c2 => ?_) (fun c2 => ?_)
  · have h := of_pos c2 h
    exact k_X10_isSung_20 C hr hR _ _ _ _ _ _ h
  · have h := of_neg c2 h
    refine kj_ald0 (pc := 11) C dX10_isSung_11 ?_
    refine kj_iconst (pc := 12) C (v := 1) dX10_isSung_12 ci_1 ?_
    refine kj_ild4 (pc := 13) C dX10_isSung_13 ?_
    refine kj_ild5 (pc := 15) C dX10_isSung_15 ?_
    obtain ⟨q3, eq3, h⟩ := of_bind h
    refine kj_callV0 (pc := 17) C (ct_X10_giveOn eq3) (Nat.le_of_ble_eq_true rfl) mi_X10_giveOn ml_X10_143 rc_27 rfl rfl ar3 (Nat.le_of_ble_eq_true rfl) dX10_isSung_17 ?_
    exact k_X10_isSung_20 C hr hR _ _ _ _ _ _ h
def f_X10_leastGift_29 (k19 : Int32 → Int32 → Int32 → Int32 → Mem → Option (Int32 × Mem)) (n : Nat) (v1 : Int32) (v2 : Int32) (v3 : Int32) (v4 : Int32) (v5 : Int32) (M : Mem) : Option (Int32 × Mem) := match n with
  | 0 => none
  | n + 1 => if (M.1 27 0 0) ≤ v5 then lt_ (v4 + 1) (fun x2 => k19 v1 v2 v3 x2 M) else (f_X10_isSung v1 v2 v3 v5 v4 M).bind (fun q3 => if q3.1 = 0 then lt_ (v5 + 1) (fun x5 => f_X10_leastGift_29 k19 n v1 v2 v3 v4 x5 q3.2) else some (((10 : Int32) * v4) + v5, q3.2))
set_option maxHeartbeats 4000000 in
set_option maxRecDepth 100000 in
theorem k_X10_leastGift_29 {g : GT} {X : XT} {k19 : Int32 → Int32 → Int32 → Int32 → Mem → Option (Int32 × Mem)} {t : Int32 × Mem} (C : Cx g X cX10_leastGift RX10 6 7) (hr : (xt X).sig.returnType = some .int) (hR : Rt g X (some (.int t.1)) t.2) (hk19 : ∀ (v1 : Int32) (v2 : Int32) (v3 : Int32) (v4 : Int32) (M : Mem) (w5 : Option Value), k19 v1 v2 v3 v4 M = some t → Kj g X 6 19 [some (.ref (ga g 27 0)), some (.int v1), some (.int v2), some (.int v3), some (.int v4), w5] [] M) (n : Nat) : ∀ (v1 : Int32) (v2 : Int32) (v3 : Int32) (v4 : Int32) (v5 : Int32) (M : Mem), f_X10_leastGift_29 k19 n v1 v2 v3 v4 v5 M = some t → Kj g X 6 29 [some (.ref (ga g 27 0)), some (.int v1), some (.int v2), some (.int v3), some (.int v4), some (.int v5)] [] M := by
  induction n with
  | zero => intro v1 v2 v3 v4 v5 M h; rw [f_X10_leastGift_29] at h; cases h
  | succ n ih =>
    intro v1 v2 v3 v4 v5 M h
    rw [f_X10_leastGift_29] at h
    refine kj_ild5 (pc := 29) C dX10_leastGift_29 ?_
    refine kj_ald0 (pc := 31) C dX10_leastGift_31 ?_
    refine gf_X10_96 (pc := 32) C dX10_leastGift_32 ?_
    refine kj_icmp_ge (pc := 35) C dX10_leastGift_35 (tgt := 67) (by decide) (fun c1 => ?_) (fun c1 => ?_)
    · have h := of_pos c1 h
      obtain ⟨x2, ex2, h⟩ := of_lt h
      refine kj_iinc4 (pc := 67) C (v := x2) dX10_leastGift_67 (Nat.le_of_ble_eq_true rfl) rfl (by rw [ex2, ci_1]) ?_
      refine kj_goto (pc := 70) C dX10_leastGift_70 (tgt := 19) (by decide) ?_
      exact hk19 _ _ _ _ _ _ h
    · have h := of_neg c1 h
      refine kj_ald0 (pc := 38) C dX10_leastGift_38 ?_
      refine kj_ild1 (pc := 39) C dX10_leastGift_39 ?_
      refine kj_ild2 (pc := 40) C dX10_leastGift_40 ?_
      refine kj_ild3 (pc := 41) C dX10_leastGift_41 ?_
      refine kj_ild5 (pc := 42) C dX10_leastGift_42 ?_
      refine kj_ild4 (pc := 44) C dX10_leastGift_44 ?_
      obtain ⟨q3, eq3, h⟩ := of_bind h
      refine kj_callV1 (pc := 46) C (ct_X10_isSung eq3) (Nat.le_of_ble_eq_true rfl) mi_X10_isSung ml_X10_164 rc_27 rfl rfl ar5 (Nat.le_of_ble_eq_true rfl) dX10_leastGift_46 ?_
      refine kj_if_eq (pc := 49) C dX10_leastGift_49 (tgt := 61) (by decide) (fun c4 => ?_) (fun c4 => ?_)
      · have h := of_pos c4 h
        obtain ⟨x5, ex5, h⟩ := of_lt h
        refine kj_iinc5 (pc := 61) C (v := x5) dX10_leastGift_61 (Nat.le_of_ble_eq_true rfl) rfl (by rw [ex5, ci_1]) ?_
        refine kj_goto (pc := 64) C dX10_leastGift_64 (tgt := 29) (by decide) ?_
        exact ih _ _ _ _ _ _ h
      · have h := of_neg c4 h
        refine kj_bipush (pc := 52) C (v := 10) dX10_leastGift_52 cb_10 ?_
        refine kj_ild4 (pc := 54) C dX10_leastGift_54 ?_
        refine kj_imul (pc := 56) C dX10_leastGift_56 ?_
        refine kj_ild5 (pc := 57) C dX10_leastGift_57 ?_
        refine kj_iadd (pc := 59) C dX10_leastGift_59 ?_
        cases h
        exact kj_iret (pc := 60) C hr hR dX10_leastGift_60
def f_X10_leastGift_19 (n : Nat) (v1 : Int32) (v2 : Int32) (v3 : Int32) (v4 : Int32) (M : Mem) : Option (Int32 × Mem) := match n with
  | 0 => none
  | n + 1 => if 10 ≤ v4 then some (((-9) : Int32), M) else f_X10_leastGift_29 (f_X10_leastGift_19 n) 100 v1 v2 v3 v4 0 M
set_option maxHeartbeats 4000000 in
set_option maxRecDepth 100000 in
theorem k_X10_leastGift_19 {g : GT} {X : XT} {t : Int32 × Mem} (C : Cx g X cX10_leastGift RX10 6 7) (hr : (xt X).sig.returnType = some .int) (hR : Rt g X (some (.int t.1)) t.2) (n : Nat) : ∀ (v1 : Int32) (v2 : Int32) (v3 : Int32) (v4 : Int32) (M : Mem) (w5 : Option Value), f_X10_leastGift_19 n v1 v2 v3 v4 M = some t → Kj g X 6 19 [some (.ref (ga g 27 0)), some (.int v1), some (.int v2), some (.int v3), some (.int v4), w5] [] M := by
  induction n with
  | zero => intro v1 v2 v3 v4 M w5 h; rw [f_X10_leastGift_19] at h; cases h
  | succ n ih =>
    intro v1 v2 v3 v4 M w5 h
    rw [f_X10_leastGift_19] at h
    refine kj_ild4 (pc := 19) C dX10_leastGift_19 ?_
    refine kj_bipush (pc := 21) C (v := 10) dX10_leastGift_21 cb_10 ?_
    refine kj_icmp_ge (pc := 23) C dX10_leastGift_23 (tgt := 73) (by decide) (fun c1 => ?_) (fun c1 => ?_)
    · have h := of_pos c1 h
      refine kj_bipush (pc := 73) C (v := (-9)) dX10_leastGift_73 cb_m9 ?_
      cases h
      exact kj_iret (pc := 75) C hr hR dX10_leastGift_75
    · have h := of_neg c1 h
      refine kj_iconst (pc := 26) C (v := 0) dX10_leastGift_26 ci_0 ?_
      refine kj_ist5 (pc := 27) C dX10_leastGift_27 (Nat.le_of_ble_eq_true rfl) rfl ?_
      exact k_X10_leastGift_29 C hr hR ih 100 _ _ _ _ _ _ h
def f_X10_leastGift (v1 : Int32) (v2 : Int32) (v3 : Int32) (M : Mem) : Option (Int32 × Mem) := (f_X10_isSung v1 v2 v3 (-9) 0 M).bind (fun q1 => if q1.1 = 0 then f_X10_leastGift_19 100 v1 v2 v3 1 q1.2 else some ((9 : Int32), q1.2))
set_option maxHeartbeats 4000000 in
set_option maxRecDepth 100000 in
theorem ct_X10_leastGift {g : GT} {l : Launch} {v1 : Int32} {v2 : Int32} {v3 : Int32} {M : Mem} {t : Int32 × Mem} (h : f_X10_leastGift v1 v2 v3 M = some t) : Ct g l 7 yX10_leastGift cX10_leastGift 6 (some .int) [.ref (ga g 27 0), .int v1, .int v2, .int v3] M (some (.int t.1)) t.2 := by
  refine ct_of (k := 2) (by decide) (Nat.le_of_ble_eq_true rfl) rfl (fun X C hl hr hR => ?_)
  subst hl
  have C : Cx g X cX10_leastGift RX10 6 7 := C
  unfold f_X10_leastGift at h
  refine kj_ald0 (pc := 0) C dX10_leastGift_0 ?_
  refine kj_ild1 (pc := 1) C dX10_leastGift_1 ?_
  refine kj_ild2 (pc := 2) C dX10_leastGift_2 ?_
  refine kj_ild3 (pc := 3) C dX10_leastGift_3 ?_
  refine kj_bipush (pc := 4) C (v := (-9)) dX10_leastGift_4 cb_m9 ?_
  refine kj_iconst (pc := 6) C (v := 0) dX10_leastGift_6 ci_0 ?_
  obtain ⟨q1, eq1, h⟩ := of_bind h
  refine kj_callV1 (pc := 7) C (ct_X10_isSung eq1) (Nat.le_of_ble_eq_true rfl) mi_X10_isSung ml_X10_164 rc_27 rfl rfl ar5 (Nat.le_of_ble_eq_true rfl) dX10_leastGift_7 ?_
  refine kj_if_eq (pc := 10) C dX10_leastGift_10 (tgt := 16) (by decide) (fun c2 => ?_) (fun c2 => ?_)
  · have h := of_pos c2 h
    refine kj_iconst (pc := 16) C (v := 1) dX10_leastGift_16 ci_1 ?_
    refine kj_ist4 (pc := 17) C dX10_leastGift_17 (Nat.le_of_ble_eq_true rfl) rfl ?_
    exact k_X10_leastGift_19 C hr hR 100 _ _ _ _ _ _ h
  · have h := of_neg c2 h
    refine kj_bipush (pc := 13) C (v := 9) dX10_leastGift_13 cb_9 ?_
    cases h
    exact kj_iret (pc := 15) C hr hR dX10_leastGift_15
def f_X10_gets_97 (s0 : Int32) (M : Mem) : Option (Int32 × Mem) := some (s0, M)
set_option maxHeartbeats 4000000 in
set_option maxRecDepth 100000 in
theorem k_X10_gets_97 {g : GT} {X : XT} {t : Int32 × Mem} (C : Cx g X cX10_gets RX10 6 8) (hr : (xt X).sig.returnType = some .int) (hR : Rt g X (some (.int t.1)) t.2) : ∀ (s0 : Int32) (M : Mem) (w0 w1 w2 w3 w4 w5 : Option Value), f_X10_gets_97 s0 M = some t → Kj g X 6 97 [w0, w1, w2, w3, w4, w5] [.int s0] M := by
  intro s0 M w0 w1 w2 w3 w4 w5 h
  unfold f_X10_gets_97 at h
  cases h
  exact kj_iret (pc := 97) C hr hR dX10_gets_97
def f_X10_gets_45 (M : Mem) : Option (Int32 × Mem) := some (((-2) : Int32), M)
set_option maxHeartbeats 4000000 in
set_option maxRecDepth 100000 in
theorem k_X10_gets_45 {g : GT} {X : XT} {t : Int32 × Mem} (C : Cx g X cX10_gets RX10 6 8) (hr : (xt X).sig.returnType = some .int) (hR : Rt g X (some (.int t.1)) t.2) : ∀ (M : Mem) (w0 w1 w2 w3 w4 w5 : Option Value), f_X10_gets_45 M = some t → Kj g X 6 45 [w0, w1, w2, w3, w4, w5] [] M := by
  intro M w0 w1 w2 w3 w4 w5 h
  unfold f_X10_gets_45 at h
  refine kj_bipush (pc := 45) C (v := (-2)) dX10_gets_45 cb_m2 ?_
  cases h
  exact kj_iret (pc := 47) C hr hR dX10_gets_47
def f_X10_gets (v1 : Int32) (v2 : Int32) (v3 : Int32) (v4 : Int32) (M : Mem) : Option (Int32 × Mem) := (f_X10_isSinger v1 M).bind (fun q1 => if q1 = 0 then some (((-1) : Int32), M) else (f_X10_in v2.toInt64 0 9 M).bind (fun q3 => if q3 = 0 then f_X10_gets_45 M else (f_X10_in v3.toInt64 1 9 M).bind (fun q5 => if q5 = 0 then f_X10_gets_45 M else (f_X10_in v4.toInt64 0 1 M).bind (fun q7 => if q7 = 0 then f_X10_gets_45 M else (f_X10_leastGift v1 v2 v3 M).bind (fun q9 => if q9.1 = (-9) then some (((-9) : Int32), q9.2) else if v4 = 0 then f_X10_gets_97 (q9.1 / 10) q9.2 else if q9.1 = 9 then f_X10_gets_97 (-9) q9.2 else f_X10_gets_97 (q9.1 - q9.1 / 10 * 10) q9.2)))))
set_option maxHeartbeats 4000000 in
set_option maxRecDepth 100000 in
theorem ct_X10_gets {g : GT} {l : Launch} {v1 : Int32} {v2 : Int32} {v3 : Int32} {v4 : Int32} {M : Mem} {t : Int32 × Mem} (h : f_X10_gets v1 v2 v3 v4 M = some t) : Ct g l 8 yX10_gets cX10_gets 6 (some .int) [.ref (ga g 27 0), .int v1, .int v2, .int v3, .int v4] M (some (.int t.1)) t.2 := by
  refine ct_of (k := 1) (by decide) (Nat.le_of_ble_eq_true rfl) rfl (fun X C hl hr hR => ?_)
  subst hl
  have C : Cx g X cX10_gets RX10 6 8 := C
  unfold f_X10_gets at h
  refine kj_ald0 (pc := 0) C dX10_gets_0 ?_
  refine kj_ild1 (pc := 1) C dX10_gets_1 ?_
  obtain ⟨q1, eq1, h⟩ := of_bind h
  refine kj_callV1 (pc := 2) C (ct_X10_isSinger eq1) (Nat.le_of_ble_eq_true rfl) mi_X10_isSinger ml_X10_119 rc_27 rfl rfl ar1 (Nat.le_of_ble_eq_true rfl) dX10_gets_2 ?_
  refine kj_if_ne (pc := 5) C dX10_gets_5 (tgt := 10) (by decide) (fun c2 => ?_) (fun c2 => ?_)
  · have h := of_neg c2 h
    refine kj_ild2 (pc := 10) C dX10_gets_10 ?_
    refine kj_i2l (pc := 11) C dX10_gets_11 ?_
    refine kj_lconst (pc := 12) C (v := 0) dX10_gets_12 cl_0 ?_
    refine kj_ldc2 (pc := 13) C cn_X10_72 dX10_gets_13 ?_
    obtain ⟨q3, eq3, h⟩ := of_bind h
    refine kj_callS1 (pc := 16) C (ct_X10_in eq3) (Nat.le_of_ble_eq_true rfl) mi_X10_in ml_X10_59 rfl as3 (Nat.le_of_ble_eq_true rfl) dX10_gets_16 ?_
    refine kj_if_eq (pc := 19) C dX10_gets_19 (tgt := 45) (by decide) (fun c4 => ?_) (fun c4 => ?_)
    · have h := of_pos c4 h
      exact k_X10_gets_45 C hr hR  _ _ _ _ _ _ _ h
    · have h := of_neg c4 h
      refine kj_ild3 (pc := 22) C dX10_gets_22 ?_
      refine kj_i2l (pc := 23) C dX10_gets_23 ?_
      refine kj_lconst (pc := 24) C (v := 1) dX10_gets_24 cl_1 ?_
      refine kj_ldc2 (pc := 25) C cn_X10_72 dX10_gets_25 ?_
      obtain ⟨q5, eq5, h⟩ := of_bind h
      refine kj_callS1 (pc := 28) C (ct_X10_in eq5) (Nat.le_of_ble_eq_true rfl) mi_X10_in ml_X10_59 rfl as3 (Nat.le_of_ble_eq_true rfl) dX10_gets_28 ?_
      refine kj_if_eq (pc := 31) C dX10_gets_31 (tgt := 45) (by decide) (fun c6 => ?_) (fun c6 => ?_)
      · have h := of_pos c6 h
        exact k_X10_gets_45 C hr hR  _ _ _ _ _ _ _ h
      · have h := of_neg c6 h
        refine kj_ild4 (pc := 34) C dX10_gets_34 ?_
        refine kj_i2l (pc := 36) C dX10_gets_36 ?_
        refine kj_lconst (pc := 37) C (v := 0) dX10_gets_37 cl_0 ?_
        refine kj_lconst (pc := 38) C (v := 1) dX10_gets_38 cl_1 ?_
        obtain ⟨q7, eq7, h⟩ := of_bind h
        refine kj_callS1 (pc := 39) C (ct_X10_in eq7) (Nat.le_of_ble_eq_true rfl) mi_X10_in ml_X10_59 rfl as3 (Nat.le_of_ble_eq_true rfl) dX10_gets_39 ?_
        refine kj_if_ne (pc := 42) C dX10_gets_42 (tgt := 48) (by decide) (fun c8 => ?_) (fun c8 => ?_)
        · have h := of_neg c8 h
          refine kj_ald0 (pc := 48) C dX10_gets_48 ?_
          refine kj_ild1 (pc := 49) C dX10_gets_49 ?_
          refine kj_ild2 (pc := 50) C dX10_gets_50 ?_
          refine kj_ild3 (pc := 51) C dX10_gets_51 ?_
          obtain ⟨q9, eq9, h⟩ := of_bind h
          refine kj_callV1 (pc := 52) C (ct_X10_leastGift eq9) (Nat.le_of_ble_eq_true rfl) mi_X10_leastGift ml_X10_168 rc_27 rfl rfl ar3 (Nat.le_of_ble_eq_true rfl) dX10_gets_52 ?_
          refine kj_ist5 (pc := 55) C dX10_gets_55 (Nat.le_of_ble_eq_true rfl) rfl ?_
          refine kj_ild5 (pc := 57) C dX10_gets_57 ?_
          refine kj_bipush (pc := 59) C (v := (-9)) dX10_gets_59 cb_m9 ?_
          refine kj_icmp_ne (pc := 61) C dX10_gets_61 (tgt := 67) (by decide) (fun c10 => ?_) (fun c10 => ?_)
          · have h := of_neg c10 h
            refine kj_ild4 (pc := 67) C dX10_gets_67 ?_
            refine kj_if_ne (pc := 69) C dX10_gets_69 (tgt := 80) (by decide) (fun c11 => ?_) (fun c11 => ?_)
            · have h := of_neg c11 h
              refine kj_ild5 (pc := 80) C dX10_gets_80 ?_
              refine kj_bipush (pc := 82) C (v := 9) dX10_gets_82 cb_9 ?_
              refine kj_icmp_ne (pc := 84) C dX10_gets_84 (tgt := 92) (by decide) (fun c12 => ?_) (fun c12 => ?_)
              · have h := of_neg c12 h
                refine kj_ild5 (pc := 92) C dX10_gets_92 ?_
                refine kj_bipush (pc := 94) C (v := 10) dX10_gets_94 cb_10 ?_
                refine kj_irem (pc := 96) C dX10_gets_96 (by decide) ?_
                exact k_X10_gets_97 C hr hR _ _ _ _ _ _ _ _ h
              · have h := of_pos c12 h
                refine kj_bipush (pc := 87) C (v := (-9)) dX10_gets_87 cb_m9 ?_
                refine kj_goto (pc := 89) C dX10_gets_89 (tgt := 97) (by decide) ?_
                exact k_X10_gets_97 C hr hR _ _ _ _ _ _ _ _ h
            · have h := of_pos c11 h
              refine kj_ild5 (pc := 72) C dX10_gets_72 ?_
              refine kj_bipush (pc := 74) C (v := 10) dX10_gets_74 cb_10 ?_
              refine kj_idiv (pc := 76) C dX10_gets_76 (by decide) ?_
              refine kj_goto (pc := 77) C dX10_gets_77 (tgt := 97) (by decide) ?_
              exact k_X10_gets_97 C hr hR _ _ _ _ _ _ _ _ h
          · have h := of_pos c10 h
            refine kj_bipush (pc := 64) C (v := (-9)) dX10_gets_64 cb_m9 ?_
            cases h
            exact kj_iret (pc := 66) C hr hR dX10_gets_66
        · have h := of_pos c8 h
          exact k_X10_gets_45 C hr hR  _ _ _ _ _ _ _ h
  · have h := of_pos c2 h
    refine kj_iconst (pc := 8) C (v := (-1)) dX10_gets_8 ci_m1 ?_
    cases h
    exact kj_iret (pc := 9) C hr hR dX10_gets_9
def f_X10_notesBy_16 (v3 : Int32) (M : Mem) : Option (Int32 × Mem) := (f_X10_goOn v3 M).bind (fun q1 => (f_X10_notesOn 1 q1).bind (fun q2 => (f_X10_ones q2 q1).bind (fun q3 => some (q3, q1))))
set_option maxHeartbeats 4000000 in
set_option maxRecDepth 100000 in
theorem k_X10_notesBy_16 {g : GT} {X : XT} {t : Int32 × Mem} (C : Cx g X cX10_notesBy RX10 4 6) (hr : (xt X).sig.returnType = some .int) (hR : Rt g X (some (.int t.1)) t.2) : ∀ (v3 : Int32) (M : Mem) (w1 w2 : Option Value), f_X10_notesBy_16 v3 M = some t → Kj g X 4 16 [some (.ref (ga g 27 0)), w1, w2, some (.int v3)] [] M := by
  intro v3 M w1 w2 h
  unfold f_X10_notesBy_16 at h
  refine kj_ald0 (pc := 16) C dX10_notesBy_16 ?_
  refine kj_ild3 (pc := 17) C dX10_notesBy_17 ?_
  obtain ⟨q1, eq1, h⟩ := of_bind h
  refine kj_callV0 (pc := 18) C (ct_X10_goOn eq1) (Nat.le_of_ble_eq_true rfl) mi_X10_goOn ml_X10_158 rc_27 rfl rfl ar1 (Nat.le_of_ble_eq_true rfl) dX10_notesBy_18 ?_
  refine kj_ald0 (pc := 21) C dX10_notesBy_21 ?_
  refine kj_iconst (pc := 22) C (v := 1) dX10_notesBy_22 ci_1 ?_
  obtain ⟨q2, eq2, h⟩ := of_bind h
  refine kj_callV1 (pc := 23) C (ct_X10_notesOn eq2) (Nat.le_of_ble_eq_true rfl) mi_X10_notesOn ml_X10_137 rc_27 rfl rfl ar1 (Nat.le_of_ble_eq_true rfl) dX10_notesBy_23 ?_
  obtain ⟨q3, eq3, h⟩ := of_bind h
  refine kj_callS1 (pc := 26) C (ct_X10_ones eq3) (Nat.le_of_ble_eq_true rfl) mi_X10_ones ml_X10_140 rfl as1 (Nat.le_of_ble_eq_true rfl) dX10_notesBy_26 ?_
  cases h
  exact kj_iret (pc := 29) C hr hR dX10_notesBy_29
def f_X10_notesBy (v1 : Int32) (v2 : Int32) (v3 : Int32) (M : Mem) : Option (Int32 × Mem) := (f_X10_layTrial M).bind (fun q1 => if v1 = v2 then f_X10_notesBy_16 v3 q1 else (f_X10_changeOn 1 v1 v2 q1).bind (fun q3 => f_X10_notesBy_16 v3 q3))
set_option maxHeartbeats 4000000 in
set_option maxRecDepth 100000 in
theorem ct_X10_notesBy {g : GT} {l : Launch} {v1 : Int32} {v2 : Int32} {v3 : Int32} {M : Mem} {t : Int32 × Mem} (h : f_X10_notesBy v1 v2 v3 M = some t) : Ct g l 6 yX10_notesBy cX10_notesBy 4 (some .int) [.ref (ga g 27 0), .int v1, .int v2, .int v3] M (some (.int t.1)) t.2 := by
  refine ct_of (k := 0) (by decide) (Nat.le_of_ble_eq_true rfl) rfl (fun X C hl hr hR => ?_)
  subst hl
  have C : Cx g X cX10_notesBy RX10 4 6 := C
  unfold f_X10_notesBy at h
  refine kj_ald0 (pc := 0) C dX10_notesBy_0 ?_
  obtain ⟨q1, eq1, h⟩ := of_bind h
  refine kj_callV0 (pc := 1) C (ct_X10_layTrial eq1) (Nat.le_of_ble_eq_true rfl) mi_X10_layTrial ml_X10_155 rc_27 rfl rfl ar0 (Nat.le_of_ble_eq_true rfl) dX10_notesBy_1 ?_
  refine kj_ild1 (pc := 4) C dX10_notesBy_4 ?_
  refine kj_ild2 (pc := 5) C dX10_notesBy_5 ?_
  refine kj_icmp_eq (pc := 6) C dX10_notesBy_6 (tgt := 16) (by decide) (fun c2 => ?_) (fun c2 => ?_)
  · have h := of_pos c2 h
    exact k_X10_notesBy_16 C hr hR _ _ _ _ h
  · have h := of_neg c2 h
    refine kj_ald0 (pc := 9) C dX10_notesBy_9 ?_
    refine kj_iconst (pc := 10) C (v := 1) dX10_notesBy_10 ci_1 ?_
    refine kj_ild1 (pc := 11) C dX10_notesBy_11 ?_
    refine kj_ild2 (pc := 12) C dX10_notesBy_12 ?_
    obtain ⟨q3, eq3, h⟩ := of_bind h
    refine kj_callV0 (pc := 13) C (ct_X10_changeOn eq3) (Nat.le_of_ble_eq_true rfl) mi_X10_changeOn ml_X10_147 rc_27 rfl rfl ar3 (Nat.le_of_ble_eq_true rfl) dX10_notesBy_13 ?_
    exact k_X10_notesBy_16 C hr hR _ _ _ _ h
def f_X10_best_145 (s0 : Int32) (M : Mem) : Option (Int32 × Mem) := some (s0, M)
set_option maxHeartbeats 4000000 in
set_option maxRecDepth 100000 in
theorem k_X10_best_145 {g : GT} {X : XT} {t : Int32 × Mem} (C : Cx g X cX10_best RX10 9 7) (hr : (xt X).sig.returnType = some .int) (hR : Rt g X (some (.int t.1)) t.2) : ∀ (s0 : Int32) (M : Mem) (w0 w1 w2 w3 w4 w5 w6 w7 w8 : Option Value), f_X10_best_145 s0 M = some t → Kj g X 9 145 [w0, w1, w2, w3, w4, w5, w6, w7, w8] [.int s0] M := by
  intro s0 M w0 w1 w2 w3 w4 w5 w6 w7 w8 h
  unfold f_X10_best_145 at h
  cases h
  exact kj_iret (pc := 145) C hr hR dX10_best_145
def f_X10_best_128 (k40 : Int32 → Int32 → Int32 → Int32 → Int32 → Mem → Option (Int32 × Mem)) (v1 : Int32) (v2 : Int32) (v4 : Int32) (v5 : Int32) (s0 : Int32) (M : Mem) : Option (Int32 × Mem) := lt_ (v5 + 1) (fun x1 => k40 v1 v2 s0 v4 x1 M)
set_option maxHeartbeats 4000000 in
set_option maxRecDepth 100000 in
theorem k_X10_best_128 {g : GT} {X : XT} {k40 : Int32 → Int32 → Int32 → Int32 → Int32 → Mem → Option (Int32 × Mem)} {t : Int32 × Mem} (C : Cx g X cX10_best RX10 9 7) (hr : (xt X).sig.returnType = some .int) (hR : Rt g X (some (.int t.1)) t.2) (hk40 : ∀ (v1 : Int32) (v2 : Int32) (v3 : Int32) (v4 : Int32) (v5 : Int32) (M : Mem) (w6 w7 w8 : Option Value), k40 v1 v2 v3 v4 v5 M = some t → Kj g X 9 40 [some (.ref (ga g 27 0)), some (.int v1), some (.int v2), some (.int v3), some (.int v4), some (.int v5), w6, w7, w8] [] M) : ∀ (v1 : Int32) (v2 : Int32) (v4 : Int32) (v5 : Int32) (s0 : Int32) (M : Mem) (w3 w6 w7 w8 : Option Value), f_X10_best_128 k40 v1 v2 v4 v5 s0 M = some t → Kj g X 9 128 [some (.ref (ga g 27 0)), some (.int v1), some (.int v2), w3, some (.int v4), some (.int v5), w6, w7, w8] [.int s0] M := by
  intro v1 v2 v4 v5 s0 M w3 w6 w7 w8 h
  unfold f_X10_best_128 at h
  refine kj_ist3 (pc := 128) C dX10_best_128 (Nat.le_of_ble_eq_true rfl) rfl ?_
  obtain ⟨x1, ex1, h⟩ := of_lt h
  refine kj_iinc5 (pc := 129) C (v := x1) dX10_best_129 (Nat.le_of_ble_eq_true rfl) rfl (by rw [ex1, ci_1]) ?_
  refine kj_goto (pc := 132) C dX10_best_132 (tgt := 40) (by decide) ?_
  exact hk40 _ _ _ _ _ _ _ _ _ h
def f_X10_best_114 (k40 : Int32 → Int32 → Int32 → Int32 → Int32 → Mem → Option (Int32 × Mem)) (v1 : Int32) (v2 : Int32) (v3 : Int32) (v5 : Int32) (v8 : Int32) (s0 : Int32) (M : Mem) : Option (Int32 × Mem) := if v8 ≤ v3 then f_X10_best_128 k40 v1 v2 s0 v5 v3 M else f_X10_best_128 k40 v1 v2 s0 v5 v8 M
set_option maxHeartbeats 4000000 in
set_option maxRecDepth 100000 in
theorem k_X10_best_114 {g : GT} {X : XT} {k40 : Int32 → Int32 → Int32 → Int32 → Int32 → Mem → Option (Int32 × Mem)} {t : Int32 × Mem} (C : Cx g X cX10_best RX10 9 7) (hr : (xt X).sig.returnType = some .int) (hR : Rt g X (some (.int t.1)) t.2) (hk40 : ∀ (v1 : Int32) (v2 : Int32) (v3 : Int32) (v4 : Int32) (v5 : Int32) (M : Mem) (w6 w7 w8 : Option Value), k40 v1 v2 v3 v4 v5 M = some t → Kj g X 9 40 [some (.ref (ga g 27 0)), some (.int v1), some (.int v2), some (.int v3), some (.int v4), some (.int v5), w6, w7, w8] [] M) : ∀ (v1 : Int32) (v2 : Int32) (v3 : Int32) (v5 : Int32) (v8 : Int32) (s0 : Int32) (M : Mem) (w4 w6 w7 : Option Value), f_X10_best_114 k40 v1 v2 v3 v5 v8 s0 M = some t → Kj g X 9 114 [some (.ref (ga g 27 0)), some (.int v1), some (.int v2), some (.int v3), w4, some (.int v5), w6, w7, some (.int v8)] [.int s0] M := by
  intro v1 v2 v3 v5 v8 s0 M w4 w6 w7 h
  unfold f_X10_best_114 at h
  refine kj_ist4 (pc := 114) C dX10_best_114 (Nat.le_of_ble_eq_true rfl) rfl ?_
  refine kj_ild8 (pc := 116) C dX10_best_116 ?_
  refine kj_ild3 (pc := 118) C dX10_best_118 ?_
  refine kj_icmp_le (pc := 119) C dX10_best_119 (tgt := 127) (by decide) (fun c1 => ?_) (fun c1 => ?_)
  · have h := of_pos c1 h
    refine kj_ild3 (pc := 127) C dX10_best_127 ?_
    exact k_X10_best_128 C hr hR hk40 _ _ _ _ _ _ _ _ _ _ h
  · have h := of_neg c1 h
    refine kj_ild8 (pc := 122) C dX10_best_122 ?_
    refine kj_goto (pc := 124) C dX10_best_124 (tgt := 128) (by decide) ?_
    exact k_X10_best_128 C hr hR hk40 _ _ _ _ _ _ _ _ _ _ h
def f_X10_best_93 (k40 : Int32 → Int32 → Int32 → Int32 → Int32 → Mem → Option (Int32 × Mem)) (v1 : Int32) (v2 : Int32) (v3 : Int32) (v4 : Int32) (v5 : Int32) (v6 : Int32) (v7 : Int32) (s0 : Int32) (M : Mem) : Option (Int32 × Mem) := if s0 ≤ v3 then f_X10_best_114 k40 v1 v2 v3 v5 s0 v4 M else f_X10_best_114 k40 v1 v2 v3 v5 s0 (((10 : Int32) * v6) + v7) M
set_option maxHeartbeats 4000000 in
set_option maxRecDepth 100000 in
theorem k_X10_best_93 {g : GT} {X : XT} {k40 : Int32 → Int32 → Int32 → Int32 → Int32 → Mem → Option (Int32 × Mem)} {t : Int32 × Mem} (C : Cx g X cX10_best RX10 9 7) (hr : (xt X).sig.returnType = some .int) (hR : Rt g X (some (.int t.1)) t.2) (hk40 : ∀ (v1 : Int32) (v2 : Int32) (v3 : Int32) (v4 : Int32) (v5 : Int32) (M : Mem) (w6 w7 w8 : Option Value), k40 v1 v2 v3 v4 v5 M = some t → Kj g X 9 40 [some (.ref (ga g 27 0)), some (.int v1), some (.int v2), some (.int v3), some (.int v4), some (.int v5), w6, w7, w8] [] M) : ∀ (v1 : Int32) (v2 : Int32) (v3 : Int32) (v4 : Int32) (v5 : Int32) (v6 : Int32) (v7 : Int32) (s0 : Int32) (M : Mem) (w8 : Option Value), f_X10_best_93 k40 v1 v2 v3 v4 v5 v6 v7 s0 M = some t → Kj g X 9 93 [some (.ref (ga g 27 0)), some (.int v1), some (.int v2), some (.int v3), some (.int v4), some (.int v5), some (.int v6), some (.int v7), w8] [.int s0] M := by
  intro v1 v2 v3 v4 v5 v6 v7 s0 M w8 h
  unfold f_X10_best_93 at h
  refine kj_ist8 (pc := 93) C dX10_best_93 (Nat.le_of_ble_eq_true rfl) rfl ?_
  refine kj_ild8 (pc := 95) C dX10_best_95 ?_
  refine kj_ild3 (pc := 97) C dX10_best_97 ?_
  refine kj_icmp_le (pc := 98) C dX10_best_98 (tgt := 112) (by decide) (fun c1 => ?_) (fun c1 => ?_)
  · have h := of_pos c1 h
    refine kj_ild4 (pc := 112) C dX10_best_112 ?_
    exact k_X10_best_114 C hr hR hk40 _ _ _ _ _ _ _ _ _ _ h
  · have h := of_neg c1 h
    refine kj_bipush (pc := 101) C (v := 10) dX10_best_101 cb_10 ?_
    refine kj_ild6 (pc := 103) C dX10_best_103 ?_
    refine kj_imul (pc := 105) C dX10_best_105 ?_
    refine kj_ild7 (pc := 106) C dX10_best_106 ?_
    refine kj_iadd (pc := 108) C dX10_best_108 ?_
    refine kj_goto (pc := 109) C dX10_best_109 (tgt := 114) (by decide) ?_
    exact k_X10_best_114 C hr hR hk40 _ _ _ _ _ _ _ _ _ _ h
def f_X10_best_40 (n : Nat) (v1 : Int32) (v2 : Int32) (v3 : Int32) (v4 : Int32) (v5 : Int32) (M : Mem) : Option (Int32 × Mem) := match n with
  | 0 => none
  | n + 1 => if ((M.1 27 0 0) * (M.1 27 0 0)) ≤ v5 then if v2 = 0 then f_X10_best_145 v3 M else f_X10_best_145 v4 M else if ¬ (M.1 27 0 0) = 0 then lt_ (v5 / (M.1 27 0 0)) (fun x4 => if ¬ (M.1 27 0 0) = 0 then lt_ (v5 - v5 / (M.1 27 0 0) * (M.1 27 0 0)) (fun x6 => if x6 ≤ x4 then f_X10_best_93 (f_X10_best_40 n) v1 v2 v3 v4 v5 x4 x6 (-9) M else (f_X10_notesBy x4 x6 v1 M).bind (fun q8 => f_X10_best_93 (f_X10_best_40 n) v1 v2 v3 v4 v5 x4 x6 q8.1 q8.2)) else none) else none
set_option maxHeartbeats 4000000 in
set_option maxRecDepth 100000 in
theorem k_X10_best_40 {g : GT} {X : XT} {t : Int32 × Mem} (C : Cx g X cX10_best RX10 9 7) (hr : (xt X).sig.returnType = some .int) (hR : Rt g X (some (.int t.1)) t.2) (n : Nat) : ∀ (v1 : Int32) (v2 : Int32) (v3 : Int32) (v4 : Int32) (v5 : Int32) (M : Mem) (w6 w7 w8 : Option Value), f_X10_best_40 n v1 v2 v3 v4 v5 M = some t → Kj g X 9 40 [some (.ref (ga g 27 0)), some (.int v1), some (.int v2), some (.int v3), some (.int v4), some (.int v5), w6, w7, w8] [] M := by
  induction n with
  | zero => intro v1 v2 v3 v4 v5 M w6 w7 w8 h; rw [f_X10_best_40] at h; cases h
  | succ n ih =>
    intro v1 v2 v3 v4 v5 M w6 w7 w8 h
    rw [f_X10_best_40] at h
    refine kj_ild5 (pc := 40) C dX10_best_40 ?_
    refine kj_ald0 (pc := 42) C dX10_best_42 ?_
    refine gf_X10_96 (pc := 43) C dX10_best_43 ?_
    refine kj_ald0 (pc := 46) C dX10_best_46 ?_
    refine gf_X10_96 (pc := 47) C dX10_best_47 ?_
    refine kj_imul (pc := 50) C dX10_best_50 ?_
    refine kj_icmp_ge (pc := 51) C dX10_best_51 (tgt := 135) (by decide) (fun c1 => ?_) (fun c1 => ?_)
    · have h := of_pos c1 h
      refine kj_ild2 (pc := 135) C dX10_best_135 ?_
      refine kj_if_ne (pc := 136) C dX10_best_136 (tgt := 143) (by decide) (fun c2 => ?_) (fun c2 => ?_)
      · have h := of_neg c2 h
        refine kj_ild4 (pc := 143) C dX10_best_143 ?_
        exact k_X10_best_145 C hr hR _ _ _ _ _ _ _ _ _ _ _ h
      · have h := of_pos c2 h
        refine kj_ild3 (pc := 139) C dX10_best_139 ?_
        refine kj_goto (pc := 140) C dX10_best_140 (tgt := 145) (by decide) ?_
        exact k_X10_best_145 C hr hR _ _ _ _ _ _ _ _ _ _ _ h
    · have h := of_neg c1 h
      refine kj_ild5 (pc := 54) C dX10_best_54 ?_
      refine kj_ald0 (pc := 56) C dX10_best_56 ?_
      refine gf_X10_96 (pc := 57) C dX10_best_57 ?_
      obtain ⟨c3, h⟩ := of_gd h
      refine kj_idiv (pc := 60) C dX10_best_60 c3 ?_
      obtain ⟨x4, ex4, h⟩ := of_lt h
      refine kj_ni ex4 ?_
      refine kj_ist6 (pc := 61) C dX10_best_61 (Nat.le_of_ble_eq_true rfl) rfl ?_
      refine kj_ild5 (pc := 63) C dX10_best_63 ?_
      refine kj_ald0 (pc := 65) C dX10_best_65 ?_
      refine gf_X10_96 (pc := 66) C dX10_best_66 ?_
      obtain ⟨c5, h⟩ := of_gd h
      refine kj_irem (pc := 69) C dX10_best_69 c5 ?_
      obtain ⟨x6, ex6, h⟩ := of_lt h
      refine kj_ni ex6 ?_
      refine kj_ist7 (pc := 70) C dX10_best_70 (Nat.le_of_ble_eq_true rfl) rfl ?_
      refine kj_ild6 (pc := 72) C dX10_best_72 ?_
      refine kj_ild7 (pc := 74) C dX10_best_74 ?_
      refine kj_icmp_ge (pc := 76) C dX10_best_76 (tgt := 91) (by decide) (fun c7 => ?_) (fun c7 => ?_)
      · have h := of_pos c7 h
        refine kj_bipush (pc := 91) C (v := (-9)) dX10_best_91 cb_m9 ?_
        exact k_X10_best_93 C hr hR ih _ _ _ _ _ _ _ _ _ _ h
      · have h := of_neg c7 h
        refine kj_ald0 (pc := 79) C dX10_best_79 ?_
        refine kj_ild6 (pc := 80) C dX10_best_80 ?_
        refine kj_ild7 (pc := 82) C dX10_best_82 ?_
        refine kj_ild1 (pc := 84) C dX10_best_84 ?_
        obtain ⟨q8, eq8, h⟩ := of_bind h
        refine kj_callV1 (pc := 85) C (ct_X10_notesBy eq8) (Nat.le_of_ble_eq_true rfl) mi_X10_notesBy ml_X10_172 rc_27 rfl rfl ar3 (Nat.le_of_ble_eq_true rfl) dX10_best_85 ?_
        refine kj_goto (pc := 88) C dX10_best_88 (tgt := 93) (by decide) ?_
        exact k_X10_best_93 C hr hR ih _ _ _ _ _ _ _ _ _ _ h
def f_X10_best_22 (M : Mem) : Option (Int32 × Mem) := some (((-2) : Int32), M)
set_option maxHeartbeats 4000000 in
set_option maxRecDepth 100000 in
theorem k_X10_best_22 {g : GT} {X : XT} {t : Int32 × Mem} (C : Cx g X cX10_best RX10 9 7) (hr : (xt X).sig.returnType = some .int) (hR : Rt g X (some (.int t.1)) t.2) : ∀ (M : Mem) (w0 w1 w2 w3 w4 w5 w6 w7 w8 : Option Value), f_X10_best_22 M = some t → Kj g X 9 22 [w0, w1, w2, w3, w4, w5, w6, w7, w8] [] M := by
  intro M w0 w1 w2 w3 w4 w5 w6 w7 w8 h
  unfold f_X10_best_22 at h
  refine kj_bipush (pc := 22) C (v := (-2)) dX10_best_22 cb_m2 ?_
  cases h
  exact kj_iret (pc := 24) C hr hR dX10_best_24
def f_X10_best (v1 : Int32) (v2 : Int32) (M : Mem) : Option (Int32 × Mem) := (f_X10_in v1.toInt64 1 9 M).bind (fun q1 => if q1 = 0 then f_X10_best_22 M else (f_X10_in v2.toInt64 0 1 M).bind (fun q3 => if q3 = 0 then f_X10_best_22 M else (f_X10_notesBy 0 0 v1 M).bind (fun q5 => f_X10_best_40 100 v1 v2 q5.1 99 0 q5.2)))
set_option maxHeartbeats 4000000 in
set_option maxRecDepth 100000 in
theorem ct_X10_best {g : GT} {l : Launch} {v1 : Int32} {v2 : Int32} {M : Mem} {t : Int32 × Mem} (h : f_X10_best v1 v2 M = some t) : Ct g l 7 yX10_best cX10_best 9 (some .int) [.ref (ga g 27 0), .int v1, .int v2] M (some (.int t.1)) t.2 := by
  refine ct_of (k := 6) (by decide) (Nat.le_of_ble_eq_true rfl) rfl (fun X C hl hr hR => ?_)
  subst hl
  have C : Cx g X cX10_best RX10 9 7 := C
  unfold f_X10_best at h
  refine kj_ild1 (pc := 0) C dX10_best_0 ?_
  refine kj_i2l (pc := 1) C dX10_best_1 ?_
  refine kj_lconst (pc := 2) C (v := 1) dX10_best_2 cl_1 ?_
  refine kj_ldc2 (pc := 3) C cn_X10_72 dX10_best_3 ?_
  obtain ⟨q1, eq1, h⟩ := of_bind h
  refine kj_callS1 (pc := 6) C (ct_X10_in eq1) (Nat.le_of_ble_eq_true rfl) mi_X10_in ml_X10_59 rfl as3 (Nat.le_of_ble_eq_true rfl) dX10_best_6 ?_
  refine kj_if_eq (pc := 9) C dX10_best_9 (tgt := 22) (by decide) (fun c2 => ?_) (fun c2 => ?_)
  · have h := of_pos c2 h
    exact k_X10_best_22 C hr hR  _ _ _ _ _ _ _ _ _ _ h
  · have h := of_neg c2 h
    refine kj_ild2 (pc := 12) C dX10_best_12 ?_
    refine kj_i2l (pc := 13) C dX10_best_13 ?_
    refine kj_lconst (pc := 14) C (v := 0) dX10_best_14 cl_0 ?_
    refine kj_lconst (pc := 15) C (v := 1) dX10_best_15 cl_1 ?_
    obtain ⟨q3, eq3, h⟩ := of_bind h
    refine kj_callS1 (pc := 16) C (ct_X10_in eq3) (Nat.le_of_ble_eq_true rfl) mi_X10_in ml_X10_59 rfl as3 (Nat.le_of_ble_eq_true rfl) dX10_best_16 ?_
    refine kj_if_ne (pc := 19) C dX10_best_19 (tgt := 25) (by decide) (fun c4 => ?_) (fun c4 => ?_)
    · have h := of_neg c4 h
      refine kj_ald0 (pc := 25) C dX10_best_25 ?_
      refine kj_iconst (pc := 26) C (v := 0) dX10_best_26 ci_0 ?_
      refine kj_iconst (pc := 27) C (v := 0) dX10_best_27 ci_0 ?_
      refine kj_ild1 (pc := 28) C dX10_best_28 ?_
      obtain ⟨q5, eq5, h⟩ := of_bind h
      refine kj_callV1 (pc := 29) C (ct_X10_notesBy eq5) (Nat.le_of_ble_eq_true rfl) mi_X10_notesBy ml_X10_172 rc_27 rfl rfl ar3 (Nat.le_of_ble_eq_true rfl) dX10_best_29 ?_
      refine kj_ist3 (pc := 32) C dX10_best_32 (Nat.le_of_ble_eq_true rfl) rfl ?_
      refine kj_bipush (pc := 33) C (v := 99) dX10_best_33 cb_99 ?_
      refine kj_ist4 (pc := 35) C dX10_best_35 (Nat.le_of_ble_eq_true rfl) rfl ?_
      refine kj_iconst (pc := 37) C (v := 0) dX10_best_37 ci_0 ?_
      refine kj_ist5 (pc := 38) C dX10_best_38 (Nat.le_of_ble_eq_true rfl) rfl ?_
      exact k_X10_best_40 C hr hR 100 _ _ _ _ _ _ _ _ _ h
    · have h := of_pos c4 h
      exact k_X10_best_22 C hr hR  _ _ _ _ _ _ _ _ _ _ h
def f_X10_tryThing_213 (s0 : Int32) (M : Mem) : Option (Int32 × Mem) := if s0 = 0 ∨ s0 = 1 then some (s0, M) else none
set_option maxHeartbeats 4000000 in
set_option maxRecDepth 100000 in
theorem k_X10_tryThing_213 {g : GT} {X : XT} {t : Int32 × Mem} (C : Cx g X cX10_tryThing RX10 6 5) (hr : (xt X).sig.returnType = some .boolean) (hR : Rt g X (some (.int t.1)) t.2) : ∀ (s0 : Int32) (M : Mem) (w0 w1 w2 w3 w4 w5 : Option Value), f_X10_tryThing_213 s0 M = some t → Kj g X 6 213 [w0, w1, w2, w3, w4, w5] [.int s0] M := by
  intro s0 M w0 w1 w2 w3 w4 w5 h
  unfold f_X10_tryThing_213 at h
  obtain ⟨c1, h⟩ := of_gd h
  cases h
  exact kj_zret (pc := 213) C hr c1 hR dX10_tryThing_213
def f_X10_tryThing_212 (M : Mem) : Option (Int32 × Mem) := f_X10_tryThing_213 0 M
set_option maxHeartbeats 4000000 in
set_option maxRecDepth 100000 in
theorem k_X10_tryThing_212 {g : GT} {X : XT} {t : Int32 × Mem} (C : Cx g X cX10_tryThing RX10 6 5) (hr : (xt X).sig.returnType = some .boolean) (hR : Rt g X (some (.int t.1)) t.2) : ∀ (M : Mem) (w0 w1 w2 w3 w4 w5 : Option Value), f_X10_tryThing_212 M = some t → Kj g X 6 212 [w0, w1, w2, w3, w4, w5] [] M := by
  intro M w0 w1 w2 w3 w4 w5 h
  unfold f_X10_tryThing_212 at h
  refine kj_iconst (pc := 212) C (v := 0) dX10_tryThing_212 ci_0 ?_
  exact k_X10_tryThing_213 C hr hR _ _ _ _ _ _ _ _ h
def f_X10_tryThing_181 (s0 : Int32) (M : Mem) : Option (Int32 × Mem) := if s0 = 0 ∨ s0 = 1 then some (s0, M) else none
set_option maxHeartbeats 4000000 in
set_option maxRecDepth 100000 in
theorem k_X10_tryThing_181 {g : GT} {X : XT} {t : Int32 × Mem} (C : Cx g X cX10_tryThing RX10 6 5) (hr : (xt X).sig.returnType = some .boolean) (hR : Rt g X (some (.int t.1)) t.2) : ∀ (s0 : Int32) (M : Mem) (w0 w1 w2 w3 w4 w5 : Option Value), f_X10_tryThing_181 s0 M = some t → Kj g X 6 181 [w0, w1, w2, w3, w4, w5] [.int s0] M := by
  intro s0 M w0 w1 w2 w3 w4 w5 h
  unfold f_X10_tryThing_181 at h
  obtain ⟨c1, h⟩ := of_gd h
  cases h
  exact kj_zret (pc := 181) C hr c1 hR dX10_tryThing_181
def f_X10_tryThing_180 (M : Mem) : Option (Int32 × Mem) := f_X10_tryThing_181 0 M
set_option maxHeartbeats 4000000 in
set_option maxRecDepth 100000 in
theorem k_X10_tryThing_180 {g : GT} {X : XT} {t : Int32 × Mem} (C : Cx g X cX10_tryThing RX10 6 5) (hr : (xt X).sig.returnType = some .boolean) (hR : Rt g X (some (.int t.1)) t.2) : ∀ (M : Mem) (w0 w1 w2 w3 w4 w5 : Option Value), f_X10_tryThing_180 M = some t → Kj g X 6 180 [w0, w1, w2, w3, w4, w5] [] M := by
  intro M w0 w1 w2 w3 w4 w5 h
  unfold f_X10_tryThing_180 at h
  refine kj_iconst (pc := 180) C (v := 0) dX10_tryThing_180 ci_0 ?_
  exact k_X10_tryThing_181 C hr hR _ _ _ _ _ _ _ _ h
def f_X10_tryThing_154 (s0 : Int32) (M : Mem) : Option (Int32 × Mem) := if s0 = 0 ∨ s0 = 1 then some (s0, M) else none
set_option maxHeartbeats 4000000 in
set_option maxRecDepth 100000 in
theorem k_X10_tryThing_154 {g : GT} {X : XT} {t : Int32 × Mem} (C : Cx g X cX10_tryThing RX10 6 5) (hr : (xt X).sig.returnType = some .boolean) (hR : Rt g X (some (.int t.1)) t.2) : ∀ (s0 : Int32) (M : Mem) (w0 w1 w2 w3 w4 w5 : Option Value), f_X10_tryThing_154 s0 M = some t → Kj g X 6 154 [w0, w1, w2, w3, w4, w5] [.int s0] M := by
  intro s0 M w0 w1 w2 w3 w4 w5 h
  unfold f_X10_tryThing_154 at h
  obtain ⟨c1, h⟩ := of_gd h
  cases h
  exact kj_zret (pc := 154) C hr c1 hR dX10_tryThing_154
def f_X10_tryThing_153 (M : Mem) : Option (Int32 × Mem) := f_X10_tryThing_154 0 M
set_option maxHeartbeats 4000000 in
set_option maxRecDepth 100000 in
theorem k_X10_tryThing_153 {g : GT} {X : XT} {t : Int32 × Mem} (C : Cx g X cX10_tryThing RX10 6 5) (hr : (xt X).sig.returnType = some .boolean) (hR : Rt g X (some (.int t.1)) t.2) : ∀ (M : Mem) (w0 w1 w2 w3 w4 w5 : Option Value), f_X10_tryThing_153 M = some t → Kj g X 6 153 [w0, w1, w2, w3, w4, w5] [] M := by
  intro M w0 w1 w2 w3 w4 w5 h
  unfold f_X10_tryThing_153 at h
  refine kj_iconst (pc := 153) C (v := 0) dX10_tryThing_153 ci_0 ?_
  exact k_X10_tryThing_154 C hr hR _ _ _ _ _ _ _ _ h
def f_X10_tryThing_133 (v5 : Int32) (M : Mem) : Option (Int32 × Mem) := if v5 = 0 ∨ v5 = 1 then some (v5, M) else none
set_option maxHeartbeats 4000000 in
set_option maxRecDepth 100000 in
theorem k_X10_tryThing_133 {g : GT} {X : XT} {t : Int32 × Mem} (C : Cx g X cX10_tryThing RX10 6 5) (hr : (xt X).sig.returnType = some .boolean) (hR : Rt g X (some (.int t.1)) t.2) : ∀ (v5 : Int32) (M : Mem) (w0 w1 w2 w3 w4 : Option Value), f_X10_tryThing_133 v5 M = some t → Kj g X 6 133 [w0, w1, w2, w3, w4, some (.int v5)] [] M := by
  intro v5 M w0 w1 w2 w3 w4 h
  unfold f_X10_tryThing_133 at h
  refine kj_ild5 (pc := 133) C dX10_tryThing_133 ?_
  obtain ⟨c1, h⟩ := of_gd h
  cases h
  exact kj_zret (pc := 135) C hr c1 hR dX10_tryThing_135
def f_X10_tryThing_119 (v2 : Int32) (v3 : Int32) (s0 : Int32) (M : Mem) : Option (Int32 × Mem) := if s0 = 0 then f_X10_tryThing_133 s0 M else (f_X10_changeOn 1 v2 v3 M).bind (fun q2 => f_X10_tryThing_133 s0 q2)
set_option maxHeartbeats 4000000 in
set_option maxRecDepth 100000 in
theorem k_X10_tryThing_119 {g : GT} {X : XT} {t : Int32 × Mem} (C : Cx g X cX10_tryThing RX10 6 5) (hr : (xt X).sig.returnType = some .boolean) (hR : Rt g X (some (.int t.1)) t.2) : ∀ (v2 : Int32) (v3 : Int32) (s0 : Int32) (M : Mem) (w1 w4 w5 : Option Value), f_X10_tryThing_119 v2 v3 s0 M = some t → Kj g X 6 119 [some (.ref (ga g 27 0)), w1, some (.int v2), some (.int v3), w4, w5] [.int s0] M := by
  intro v2 v3 s0 M w1 w4 w5 h
  unfold f_X10_tryThing_119 at h
  refine kj_ist5w (pc := 119) C dX10_tryThing_119 (Nat.le_of_ble_eq_true rfl) ?_
  refine kj_ild5 (pc := 121) C dX10_tryThing_121 ?_
  refine kj_if_eq (pc := 123) C dX10_tryThing_123 (tgt := 133) (by decide) (fun c1 => ?_) (fun c1 => ?_)
  · have h := of_pos c1 h
    exact k_X10_tryThing_133 C hr hR _ _ _ _ _ _ _ h
  · have h := of_neg c1 h
    refine kj_ald0 (pc := 126) C dX10_tryThing_126 ?_
    refine kj_iconst (pc := 127) C (v := 1) dX10_tryThing_127 ci_1 ?_
    refine kj_ild2 (pc := 128) C dX10_tryThing_128 ?_
    refine kj_ild3 (pc := 129) C dX10_tryThing_129 ?_
    obtain ⟨q2, eq2, h⟩ := of_bind h
    refine kj_callV0 (pc := 130) C (ct_X10_changeOn eq2) (Nat.le_of_ble_eq_true rfl) mi_X10_changeOn ml_X10_147 rc_27 rfl rfl ar3 (Nat.le_of_ble_eq_true rfl) dX10_tryThing_130 ?_
    exact k_X10_tryThing_133 C hr hR _ _ _ _ _ _ _ h
def f_X10_tryThing_118 (v2 : Int32) (v3 : Int32) (M : Mem) : Option (Int32 × Mem) := f_X10_tryThing_119 v2 v3 0 M
set_option maxHeartbeats 4000000 in
set_option maxRecDepth 100000 in
theorem k_X10_tryThing_118 {g : GT} {X : XT} {t : Int32 × Mem} (C : Cx g X cX10_tryThing RX10 6 5) (hr : (xt X).sig.returnType = some .boolean) (hR : Rt g X (some (.int t.1)) t.2) : ∀ (v2 : Int32) (v3 : Int32) (M : Mem) (w1 w4 w5 : Option Value), f_X10_tryThing_118 v2 v3 M = some t → Kj g X 6 118 [some (.ref (ga g 27 0)), w1, some (.int v2), some (.int v3), w4, w5] [] M := by
  intro v2 v3 M w1 w4 w5 h
  unfold f_X10_tryThing_118 at h
  refine kj_iconst (pc := 118) C (v := 0) dX10_tryThing_118 ci_0 ?_
  exact k_X10_tryThing_119 C hr hR _ _ _ _ _ _ _ h
def f_X10_tryThing_90 (v4 : Int32) (M : Mem) : Option (Int32 × Mem) := if v4 = 0 ∨ v4 = 1 then some (v4, M) else none
set_option maxHeartbeats 4000000 in
set_option maxRecDepth 100000 in
theorem k_X10_tryThing_90 {g : GT} {X : XT} {t : Int32 × Mem} (C : Cx g X cX10_tryThing RX10 6 5) (hr : (xt X).sig.returnType = some .boolean) (hR : Rt g X (some (.int t.1)) t.2) : ∀ (v4 : Int32) (M : Mem) (w0 w1 w2 w3 w5 : Option Value), f_X10_tryThing_90 v4 M = some t → Kj g X 6 90 [w0, w1, w2, w3, some (.int v4), w5] [] M := by
  intro v4 M w0 w1 w2 w3 w5 h
  unfold f_X10_tryThing_90 at h
  refine kj_ild4 (pc := 90) C dX10_tryThing_90 ?_
  obtain ⟨c1, h⟩ := of_gd h
  cases h
  exact kj_zret (pc := 92) C hr c1 hR dX10_tryThing_92
def f_X10_tryThing_76 (v2 : Int32) (v3 : Int32) (s0 : Int32) (M : Mem) : Option (Int32 × Mem) := if s0 = 0 then f_X10_tryThing_90 s0 M else (f_X10_giveOn 1 v2 v3 M).bind (fun q2 => f_X10_tryThing_90 s0 q2)
set_option maxHeartbeats 4000000 in
set_option maxRecDepth 100000 in
theorem k_X10_tryThing_76 {g : GT} {X : XT} {t : Int32 × Mem} (C : Cx g X cX10_tryThing RX10 6 5) (hr : (xt X).sig.returnType = some .boolean) (hR : Rt g X (some (.int t.1)) t.2) : ∀ (v2 : Int32) (v3 : Int32) (s0 : Int32) (M : Mem) (w1 w4 w5 : Option Value), f_X10_tryThing_76 v2 v3 s0 M = some t → Kj g X 6 76 [some (.ref (ga g 27 0)), w1, some (.int v2), some (.int v3), w4, w5] [.int s0] M := by
  intro v2 v3 s0 M w1 w4 w5 h
  unfold f_X10_tryThing_76 at h
  refine kj_ist4 (pc := 76) C dX10_tryThing_76 (Nat.le_of_ble_eq_true rfl) rfl ?_
  refine kj_ild4 (pc := 78) C dX10_tryThing_78 ?_
  refine kj_if_eq (pc := 80) C dX10_tryThing_80 (tgt := 90) (by decide) (fun c1 => ?_) (fun c1 => ?_)
  · have h := of_pos c1 h
    exact k_X10_tryThing_90 C hr hR _ _ _ _ _ _ _ h
  · have h := of_neg c1 h
    refine kj_ald0 (pc := 83) C dX10_tryThing_83 ?_
    refine kj_iconst (pc := 84) C (v := 1) dX10_tryThing_84 ci_1 ?_
    refine kj_ild2 (pc := 85) C dX10_tryThing_85 ?_
    refine kj_ild3 (pc := 86) C dX10_tryThing_86 ?_
    obtain ⟨q2, eq2, h⟩ := of_bind h
    refine kj_callV0 (pc := 87) C (ct_X10_giveOn eq2) (Nat.le_of_ble_eq_true rfl) mi_X10_giveOn ml_X10_143 rc_27 rfl rfl ar3 (Nat.le_of_ble_eq_true rfl) dX10_tryThing_87 ?_
    exact k_X10_tryThing_90 C hr hR _ _ _ _ _ _ _ h
def f_X10_tryThing_75 (v2 : Int32) (v3 : Int32) (M : Mem) : Option (Int32 × Mem) := f_X10_tryThing_76 v2 v3 0 M
set_option maxHeartbeats 4000000 in
set_option maxRecDepth 100000 in
theorem k_X10_tryThing_75 {g : GT} {X : XT} {t : Int32 × Mem} (C : Cx g X cX10_tryThing RX10 6 5) (hr : (xt X).sig.returnType = some .boolean) (hR : Rt g X (some (.int t.1)) t.2) : ∀ (v2 : Int32) (v3 : Int32) (M : Mem) (w1 w4 w5 : Option Value), f_X10_tryThing_75 v2 v3 M = some t → Kj g X 6 75 [some (.ref (ga g 27 0)), w1, some (.int v2), some (.int v3), w4, w5] [] M := by
  intro v2 v3 M w1 w4 w5 h
  unfold f_X10_tryThing_75 at h
  refine kj_iconst (pc := 75) C (v := 0) dX10_tryThing_75 ci_0 ?_
  exact k_X10_tryThing_76 C hr hR _ _ _ _ _ _ _ h
def f_X10_tryThing_58 (s0 : Int32) (M : Mem) : Option (Int32 × Mem) := if s0 = 0 ∨ s0 = 1 then some (s0, M) else none
set_option maxHeartbeats 4000000 in
set_option maxRecDepth 100000 in
theorem k_X10_tryThing_58 {g : GT} {X : XT} {t : Int32 × Mem} (C : Cx g X cX10_tryThing RX10 6 5) (hr : (xt X).sig.returnType = some .boolean) (hR : Rt g X (some (.int t.1)) t.2) : ∀ (s0 : Int32) (M : Mem) (w0 w1 w2 w3 w4 w5 : Option Value), f_X10_tryThing_58 s0 M = some t → Kj g X 6 58 [w0, w1, w2, w3, w4, w5] [.int s0] M := by
  intro s0 M w0 w1 w2 w3 w4 w5 h
  unfold f_X10_tryThing_58 at h
  obtain ⟨c1, h⟩ := of_gd h
  cases h
  exact kj_zret (pc := 58) C hr c1 hR dX10_tryThing_58
def f_X10_tryThing_57 (M : Mem) : Option (Int32 × Mem) := f_X10_tryThing_58 0 M
set_option maxHeartbeats 4000000 in
set_option maxRecDepth 100000 in
theorem k_X10_tryThing_57 {g : GT} {X : XT} {t : Int32 × Mem} (C : Cx g X cX10_tryThing RX10 6 5) (hr : (xt X).sig.returnType = some .boolean) (hR : Rt g X (some (.int t.1)) t.2) : ∀ (M : Mem) (w0 w1 w2 w3 w4 w5 : Option Value), f_X10_tryThing_57 M = some t → Kj g X 6 57 [w0, w1, w2, w3, w4, w5] [] M := by
  intro M w0 w1 w2 w3 w4 w5 h
  unfold f_X10_tryThing_57 at h
  refine kj_iconst (pc := 57) C (v := 0) dX10_tryThing_57 ci_0 ?_
  exact k_X10_tryThing_58 C hr hR _ _ _ _ _ _ _ _ h
def f_X10_tryThing (v1 : Int32) (v2 : Int32) (v3 : Int32) (M : Mem) : Option (Int32 × Mem) := if v1 = 0 then (f_X10_passOn 1 M).bind (fun q1 => if v2 = 0 then if v3 = 0 then f_X10_tryThing_58 1 q1 else f_X10_tryThing_57 q1 else f_X10_tryThing_57 q1) else if v1 = 1 then (f_X10_isSinger v2 M).bind (fun q5 => if q5 = 0 then f_X10_tryThing_75 v2 v3 M else if v3 ≤ 0 then f_X10_tryThing_75 v2 v3 M else f_X10_tryThing_76 v2 v3 1 M) else if v1 = 2 then (f_X10_isSinger v2 M).bind (fun q9 => if q9 = 0 then f_X10_tryThing_118 v2 v3 M else (f_X10_isSinger v3 M).bind (fun q11 => if q11 = 0 then f_X10_tryThing_118 v2 v3 M else if v2 = v3 then f_X10_tryThing_118 v2 v3 M else f_X10_tryThing_119 v2 v3 1 M)) else if v1 = 3 then (f_X10_pitchOn 1 M).bind (fun q15 => if v2 = 0 then if v3 = 0 then f_X10_tryThing_154 1 q15 else f_X10_tryThing_153 q15 else f_X10_tryThing_153 q15) else if v1 = 4 then (f_X10_isSinger v2 M).bind (fun q19 => if q19 = 0 then f_X10_tryThing_180 M else lt_ ((32 : Int32) + v2) (fun x22 => if ¬ (x22 < 0 ∨ 40 ≤ x22.toNatClampNeg) then if (M.1 27 4 x22.toNatClampNeg) = v3 then f_X10_tryThing_181 1 M else f_X10_tryThing_180 M else none)) else if v1 = 5 then (f_X10_isSinger v2 M).bind (fun q25 => if q25 = 0 then f_X10_tryThing_212 M else (f_X10_isSinger v3 M).bind (fun q27 => if q27 = 0 then f_X10_tryThing_212 M else (f_X10_enviesOf 1 v2 M).bind (fun q29 => if q29 = v3 then f_X10_tryThing_213 1 M else f_X10_tryThing_212 M))) else some ((0 : Int32), M)
set_option maxHeartbeats 4000000 in
set_option maxRecDepth 100000 in
theorem ct_X10_tryThing {g : GT} {l : Launch} {v1 : Int32} {v2 : Int32} {v3 : Int32} {M : Mem} {t : Int32 × Mem} (h : f_X10_tryThing v1 v2 v3 M = some t) : Ct g l 5 yX10_tryThing cX10_tryThing 6 (some .boolean) [.ref (ga g 27 0), .int v1, .int v2, .int v3] M (some (.int t.1)) t.2 := by
  refine ct_of (k := 2) (by decide) (Nat.le_of_ble_eq_true rfl) rfl (fun X C hl hr hR => ?_)
  subst hl
  have C : Cx g X cX10_tryThing RX10 6 5 := C
  unfold f_X10_tryThing at h
  refine kj_ild1 (pc := 0) C dX10_tryThing_0 ?_
  rcases Classical.em (v1 = 0) with c4 | c4
  · have h := of_pos c4 h
    refine kj_tsIn (pc := 1) C (off := 39) (tgt := 40) dX10_tryThing_1 (by rw [c4]; decide) (by rw [c4]; decide) (by rw [c4]; decide) (by decide) ?_
    refine kj_ald0 (pc := 40) C dX10_tryThing_40 ?_
    refine kj_iconst (pc := 41) C (v := 1) dX10_tryThing_41 ci_1 ?_
    obtain ⟨q1, eq1, h⟩ := of_bind h
    refine kj_callV0 (pc := 42) C (ct_X10_passOn eq1) (Nat.le_of_ble_eq_true rfl) mi_X10_passOn ml_X10_134 rc_27 rfl rfl ar1 (Nat.le_of_ble_eq_true rfl) dX10_tryThing_42 ?_
    refine kj_ild2 (pc := 45) C dX10_tryThing_45 ?_
    refine kj_if_ne (pc := 46) C dX10_tryThing_46 (tgt := 57) (by decide) (fun c2 => ?_) (fun c2 => ?_)
    · have h := of_neg c2 h
      exact k_X10_tryThing_57 C hr hR  _ _ _ _ _ _ _ h
    · have h := of_pos c2 h
      refine kj_ild3 (pc := 49) C dX10_tryThing_49 ?_
      refine kj_if_ne (pc := 50) C dX10_tryThing_50 (tgt := 57) (by decide) (fun c3 => ?_) (fun c3 => ?_)
      · have h := of_neg c3 h
        exact k_X10_tryThing_57 C hr hR  _ _ _ _ _ _ _ h
      · have h := of_pos c3 h
        refine kj_iconst (pc := 53) C (v := 1) dX10_tryThing_53 ci_1 ?_
        refine kj_goto (pc := 54) C dX10_tryThing_54 (tgt := 58) (by decide) ?_
        exact k_X10_tryThing_58 C hr hR _ _ _ _ _ _ _ _ h
  · have h := of_neg c4 h
    rcases Classical.em (v1 = 1) with c8 | c8
    · have h := of_pos c8 h
      refine kj_tsIn (pc := 1) C (off := 58) (tgt := 59) dX10_tryThing_1 (by rw [c8]; decide) (by rw [c8]; decide) (by rw [c8]; decide) (by decide) ?_
      refine kj_ald0 (pc := 59) C dX10_tryThing_59 ?_
      refine kj_ild2 (pc := 60) C dX10_tryThing_60 ?_
      obtain ⟨q5, eq5, h⟩ := of_bind h
      refine kj_callV1 (pc := 61) C (ct_X10_isSinger eq5) (Nat.le_of_ble_eq_true rfl) mi_X10_isSinger ml_X10_119 rc_27 rfl rfl ar1 (Nat.le_of_ble_eq_true rfl) dX10_tryThing_61 ?_
      refine kj_if_eq (pc := 64) C dX10_tryThing_64 (tgt := 75) (by decide) (fun c6 => ?_) (fun c6 => ?_)
      · have h := of_pos c6 h
        exact k_X10_tryThing_75 C hr hR _ _ _ _ _ _ h
      · have h := of_neg c6 h
        refine kj_ild3 (pc := 67) C dX10_tryThing_67 ?_
        refine kj_if_le (pc := 68) C dX10_tryThing_68 (tgt := 75) (by decide) (fun c7 => ?_) (fun c7 => ?_)
        · have h := of_pos c7 h
          exact k_X10_tryThing_75 C hr hR _ _ _ _ _ _ h
        · have h := of_neg c7 h
          refine kj_iconst (pc := 71) C (v := 1) dX10_tryThing_71 ci_1 ?_
          refine kj_goto (pc := 72) C dX10_tryThing_72 (tgt := 76) (by decide) ?_
          exact k_X10_tryThing_76 C hr hR _ _ _ _ _ _ _ h
    · have h := of_neg c8 h
      rcases Classical.em (v1 = 2) with c14 | c14
      · have h := of_pos c14 h
        refine kj_tsIn (pc := 1) C (off := 92) (tgt := 93) dX10_tryThing_1 (by rw [c14]; decide) (by rw [c14]; decide) (by rw [c14]; decide) (by decide) ?_
        refine kj_ald0 (pc := 93) C dX10_tryThing_93 ?_
        refine kj_ild2 (pc := 94) C dX10_tryThing_94 ?_
        obtain ⟨q9, eq9, h⟩ := of_bind h
        refine kj_callV1 (pc := 95) C (ct_X10_isSinger eq9) (Nat.le_of_ble_eq_true rfl) mi_X10_isSinger ml_X10_119 rc_27 rfl rfl ar1 (Nat.le_of_ble_eq_true rfl) dX10_tryThing_95 ?_
        refine kj_if_eq (pc := 98) C dX10_tryThing_98 (tgt := 118) (by decide) (fun c10 => ?_) (fun c10 => ?_)
        · have h := of_pos c10 h
          exact k_X10_tryThing_118 C hr hR _ _ _ _ _ _ h
        · have h := of_neg c10 h
          refine kj_ald0 (pc := 101) C dX10_tryThing_101 ?_
          refine kj_ild3 (pc := 102) C dX10_tryThing_102 ?_
          obtain ⟨q11, eq11, h⟩ := of_bind h
          refine kj_callV1 (pc := 103) C (ct_X10_isSinger eq11) (Nat.le_of_ble_eq_true rfl) mi_X10_isSinger ml_X10_119 rc_27 rfl rfl ar1 (Nat.le_of_ble_eq_true rfl) dX10_tryThing_103 ?_
          refine kj_if_eq (pc := 106) C dX10_tryThing_106 (tgt := 118) (by decide) (fun c12 => ?_) (fun c12 => ?_)
          · have h := of_pos c12 h
            exact k_X10_tryThing_118 C hr hR _ _ _ _ _ _ h
          · have h := of_neg c12 h
            refine kj_ild2 (pc := 109) C dX10_tryThing_109 ?_
            refine kj_ild3 (pc := 110) C dX10_tryThing_110 ?_
            refine kj_icmp_eq (pc := 111) C dX10_tryThing_111 (tgt := 118) (by decide) (fun c13 => ?_) (fun c13 => ?_)
            · have h := of_pos c13 h
              exact k_X10_tryThing_118 C hr hR _ _ _ _ _ _ h
            · have h := of_neg c13 h
              refine kj_iconst (pc := 114) C (v := 1) dX10_tryThing_114 ci_1 ?_
              refine kj_goto (pc := 115) C dX10_tryThing_115 (tgt := 119) (by decide) ?_
              exact k_X10_tryThing_119 C hr hR _ _ _ _ _ _ _ h
      · have h := of_neg c14 h
        rcases Classical.em (v1 = 3) with c18 | c18
        · have h := of_pos c18 h
          refine kj_tsIn (pc := 1) C (off := 135) (tgt := 136) dX10_tryThing_1 (by rw [c18]; decide) (by rw [c18]; decide) (by rw [c18]; decide) (by decide) ?_
          refine kj_ald0 (pc := 136) C dX10_tryThing_136 ?_
          refine kj_iconst (pc := 137) C (v := 1) dX10_tryThing_137 ci_1 ?_
          obtain ⟨q15, eq15, h⟩ := of_bind h
          refine kj_callV0 (pc := 138) C (ct_X10_pitchOn eq15) (Nat.le_of_ble_eq_true rfl) mi_X10_pitchOn ml_X10_150 rc_27 rfl rfl ar1 (Nat.le_of_ble_eq_true rfl) dX10_tryThing_138 ?_
          refine kj_ild2 (pc := 141) C dX10_tryThing_141 ?_
          refine kj_if_ne (pc := 142) C dX10_tryThing_142 (tgt := 153) (by decide) (fun c16 => ?_) (fun c16 => ?_)
          · have h := of_neg c16 h
            exact k_X10_tryThing_153 C hr hR  _ _ _ _ _ _ _ h
          · have h := of_pos c16 h
            refine kj_ild3 (pc := 145) C dX10_tryThing_145 ?_
            refine kj_if_ne (pc := 146) C dX10_tryThing_146 (tgt := 153) (by decide) (fun c17 => ?_) (fun c17 => ?_)
            · have h := of_neg c17 h
              exact k_X10_tryThing_153 C hr hR  _ _ _ _ _ _ _ h
            · have h := of_pos c17 h
              refine kj_iconst (pc := 149) C (v := 1) dX10_tryThing_149 ci_1 ?_
              refine kj_goto (pc := 150) C dX10_tryThing_150 (tgt := 154) (by decide) ?_
              exact k_X10_tryThing_154 C hr hR _ _ _ _ _ _ _ _ h
        · have h := of_neg c18 h
          rcases Classical.em (v1 = 4) with c24 | c24
          · have h := of_pos c24 h
            refine kj_tsIn (pc := 1) C (off := 154) (tgt := 155) dX10_tryThing_1 (by rw [c24]; decide) (by rw [c24]; decide) (by rw [c24]; decide) (by decide) ?_
            refine kj_ald0 (pc := 155) C dX10_tryThing_155 ?_
            refine kj_ild2 (pc := 156) C dX10_tryThing_156 ?_
            obtain ⟨q19, eq19, h⟩ := of_bind h
            refine kj_callV1 (pc := 157) C (ct_X10_isSinger eq19) (Nat.le_of_ble_eq_true rfl) mi_X10_isSinger ml_X10_119 rc_27 rfl rfl ar1 (Nat.le_of_ble_eq_true rfl) dX10_tryThing_157 ?_
            refine kj_if_eq (pc := 160) C dX10_tryThing_160 (tgt := 180) (by decide) (fun c20 => ?_) (fun c20 => ?_)
            · have h := of_pos c20 h
              exact k_X10_tryThing_180 C hr hR  _ _ _ _ _ _ _ h
            · have h := of_neg c20 h
              refine kj_ald0 (pc := 163) C dX10_tryThing_163 ?_
              refine gf_X10_19 (pc := 164) C dX10_tryThing_164 ?_
              refine kj_bipush (pc := 167) C (v := 32) dX10_tryThing_167 cb_32 ?_
              refine kj_ild2 (pc := 169) C dX10_tryThing_169 ?_
              refine kj_iadd (pc := 170) C dX10_tryThing_170 ?_
              obtain ⟨x22, ex22, h⟩ := of_lt h
              refine kj_ni ex22 ?_
              obtain ⟨c21, h⟩ := of_gd h
              refine kj_iald2 (pc := 171) C ia_27_4 c21 dX10_tryThing_171 ?_
              refine kj_ild3 (pc := 172) C dX10_tryThing_172 ?_
              refine kj_icmp_ne (pc := 173) C dX10_tryThing_173 (tgt := 180) (by decide) (fun c23 => ?_) (fun c23 => ?_)
              · have h := of_neg c23 h
                exact k_X10_tryThing_180 C hr hR  _ _ _ _ _ _ _ h
              · have h := of_pos c23 h
                refine kj_iconst (pc := 176) C (v := 1) dX10_tryThing_176 ci_1 ?_
                refine kj_goto (pc := 177) C dX10_tryThing_177 (tgt := 181) (by decide) ?_
                exact k_X10_tryThing_181 C hr hR _ _ _ _ _ _ _ _ h
          · have h := of_neg c24 h
            rcases Classical.em (v1 = 5) with c31 | c31
            · have h := of_pos c31 h
              refine kj_tsIn (pc := 1) C (off := 181) (tgt := 182) dX10_tryThing_1 (by rw [c31]; decide) (by rw [c31]; decide) (by rw [c31]; decide) (by decide) ?_
              refine kj_ald0 (pc := 182) C dX10_tryThing_182 ?_
              refine kj_ild2 (pc := 183) C dX10_tryThing_183 ?_
              obtain ⟨q25, eq25, h⟩ := of_bind h
              refine kj_callV1 (pc := 184) C (ct_X10_isSinger eq25) (Nat.le_of_ble_eq_true rfl) mi_X10_isSinger ml_X10_119 rc_27 rfl rfl ar1 (Nat.le_of_ble_eq_true rfl) dX10_tryThing_184 ?_
              refine kj_if_eq (pc := 187) C dX10_tryThing_187 (tgt := 212) (by decide) (fun c26 => ?_) (fun c26 => ?_)
              · have h := of_pos c26 h
                exact k_X10_tryThing_212 C hr hR  _ _ _ _ _ _ _ h
              · have h := of_neg c26 h
                refine kj_ald0 (pc := 190) C dX10_tryThing_190 ?_
                refine kj_ild3 (pc := 191) C dX10_tryThing_191 ?_
                obtain ⟨q27, eq27, h⟩ := of_bind h
                refine kj_callV1 (pc := 192) C (ct_X10_isSinger eq27) (Nat.le_of_ble_eq_true rfl) mi_X10_isSinger ml_X10_119 rc_27 rfl rfl ar1 (Nat.le_of_ble_eq_true rfl) dX10_tryThing_192 ?_
                refine kj_if_eq (pc := 195) C dX10_tryThing_195 (tgt := 212) (by decide) (fun c28 => ?_) (fun c28 => ?_)
                · have h := of_pos c28 h
                  exact k_X10_tryThing_212 C hr hR  _ _ _ _ _ _ _ h
                · have h := of_neg c28 h
                  refine kj_ald0 (pc := 198) C dX10_tryThing_198 ?_
                  refine kj_iconst (pc := 199) C (v := 1) dX10_tryThing_199 ci_1 ?_
                  refine kj_ild2 (pc := 200) C dX10_tryThing_200 ?_
                  obtain ⟨q29, eq29, h⟩ := of_bind h
                  refine kj_callV1 (pc := 201) C (ct_X10_enviesOf eq29) (Nat.le_of_ble_eq_true rfl) mi_X10_enviesOf ml_X10_113 rc_27 rfl rfl ar2 (Nat.le_of_ble_eq_true rfl) dX10_tryThing_201 ?_
                  refine kj_ild3 (pc := 204) C dX10_tryThing_204 ?_
                  refine kj_icmp_ne (pc := 205) C dX10_tryThing_205 (tgt := 212) (by decide) (fun c30 => ?_) (fun c30 => ?_)
                  · have h := of_neg c30 h
                    exact k_X10_tryThing_212 C hr hR  _ _ _ _ _ _ _ h
                  · have h := of_pos c30 h
                    refine kj_iconst (pc := 208) C (v := 1) dX10_tryThing_208 ci_1 ?_
                    refine kj_goto (pc := 209) C dX10_tryThing_209 (tgt := 213) (by decide) ?_
                    exact k_X10_tryThing_213 C hr hR _ _ _ _ _ _ _ _ h
            · have h := of_neg c31 h
              refine kj_tsOut (pc := 1) C (tgt := 214) dX10_tryThing_1 (ts_out5 c4 c8 c14 c18 c24 c31) (by decide) ?_
              refine kj_iconst (pc := 214) C (v := 0) dX10_tryThing_214 ci_0 ?_
              cases h
              exact kj_zret (pc := 215) C hr (by decide) hR dX10_tryThing_215
def f_X10_thousandTo_4 (M : Mem) (n : Nat) (v0 : Int32) (v1 : Int64) (v3 : Int32) : Option (Int64) := match n with
  | 0 => none
  | n + 1 => if v0 ≤ v3 then some v1 else lt_ (v1 * (1000 : Int64)) (fun x2 => lt_ (v3 + 1) (fun x3 => f_X10_thousandTo_4 M n v0 x2 x3))
set_option maxHeartbeats 4000000 in
set_option maxRecDepth 100000 in
theorem k_X10_thousandTo_4 {g : GT} {X : XT} {M : Mem} {t : Int64} (C : Cx g X cX10_thousandTo RX10 4 0) (hr : (xt X).sig.returnType = some .long) (hR : Rt g X (some (.long t)) M) (n : Nat) : ∀ (v0 : Int32) (v1 : Int64) (v3 : Int32), f_X10_thousandTo_4 M n v0 v1 v3 = some t → Kj g X 4 4 [some (.int v0), some (.long v1), none, some (.int v3)] [] M := by
  induction n with
  | zero => intro v0 v1 v3 h; rw [f_X10_thousandTo_4] at h; cases h
  | succ n ih =>
    intro v0 v1 v3 h
    rw [f_X10_thousandTo_4] at h
    refine kj_ild3 (pc := 4) C dX10_thousandTo_4 ?_
    refine kj_ild0 (pc := 5) C dX10_thousandTo_5 ?_
    refine kj_icmp_ge (pc := 6) C dX10_thousandTo_6 (tgt := 21) (by decide) (fun c1 => ?_) (fun c1 => ?_)
    · have h := of_pos c1 h
      refine kj_lld1 (pc := 21) C dX10_thousandTo_21 ?_
      cases h
      exact kj_lret (pc := 22) C hr hR dX10_thousandTo_22
    · have h := of_neg c1 h
      refine kj_lld1 (pc := 9) C dX10_thousandTo_9 ?_
      refine kj_ldc2 (pc := 10) C cn_X10_175 dX10_thousandTo_10 ?_
      refine kj_lmul (pc := 13) C dX10_thousandTo_13 ?_
      obtain ⟨x2, ex2, h⟩ := of_lt h
      refine kj_nlg ex2 ?_
      refine kj_lst1 (pc := 14) C dX10_thousandTo_14 (Nat.le_of_ble_eq_true rfl) rfl ?_
      obtain ⟨x3, ex3, h⟩ := of_lt h
      refine kj_iinc3 (pc := 15) C (v := x3) dX10_thousandTo_15 (Nat.le_of_ble_eq_true rfl) rfl (by rw [ex3, ci_1]) ?_
      refine kj_goto (pc := 18) C dX10_thousandTo_18 (tgt := 4) (by decide) ?_
      exact ih _ _ _ h
def f_X10_thousandTo (v0 : Int32) (M : Mem) : Option (Int64) := f_X10_thousandTo_4 M 100 v0 1 0
set_option maxHeartbeats 4000000 in
set_option maxRecDepth 100000 in
theorem ct_X10_thousandTo {g : GT} {l : Launch} {v0 : Int32} {M : Mem} {t : Int64} (h : f_X10_thousandTo v0 M = some t) : Ct g l 0 yX10_thousandTo cX10_thousandTo 4 (some .long) [.int v0] M (some (.long t)) M := by
  refine ct_of (k := 3) (by decide) (Nat.le_of_ble_eq_true rfl) rfl (fun X C hl hr hR => ?_)
  subst hl
  have C : Cx g X cX10_thousandTo RX10 4 0 := C
  unfold f_X10_thousandTo at h
  refine kj_lconst (pc := 0) C (v := 1) dX10_thousandTo_0 cl_1 ?_
  refine kj_lst1 (pc := 1) C dX10_thousandTo_1 (Nat.le_of_ble_eq_true rfl) rfl ?_
  refine kj_iconst (pc := 2) C (v := 0) dX10_thousandTo_2 ci_0 ?_
  refine kj_ist3 (pc := 3) C dX10_thousandTo_3 (Nat.le_of_ble_eq_true rfl) rfl ?_
  exact k_X10_thousandTo_4 C hr hR 100 _ _ _ h
def f_X10_judge_36 (n : Nat) (v1 : Int32) (v2 : Int64) (v4 : Int32) (M : Mem) : Option (Int32 × Mem) := match n with
  | 0 => none
  | n + 1 => if v1 ≤ v4 then some (((-9) : Int32), M) else (f_X10_thousandTo ((v1 - (1 : Int32)) - v4) M).bind (fun q2 => if ¬ q2 = 0 then lt_ (v2 / q2) (fun x4 => lt_ ((x4 - x4 / 1000 * 1000).toInt32) (fun x5 => lt_ (x5 / 10) (fun x6 => (f_X10_tryThing (x5 / 100) (x6 - x6 / 10 * 10) (x5 - x5 / 10 * 10) M).bind (fun q7 => if q7.1 = 0 then some (v4, q7.2) else lt_ (v4 + 1) (fun x9 => f_X10_judge_36 n v1 v2 x9 q7.2))))) else none)
set_option maxHeartbeats 4000000 in
set_option maxRecDepth 100000 in
theorem k_X10_judge_36 {g : GT} {X : XT} {t : Int32 × Mem} (C : Cx g X cX10_judge RX10 6 6) (hr : (xt X).sig.returnType = some .int) (hR : Rt g X (some (.int t.1)) t.2) (n : Nat) : ∀ (v1 : Int32) (v2 : Int64) (v4 : Int32) (M : Mem) (w5 : Option Value), f_X10_judge_36 n v1 v2 v4 M = some t → Kj g X 6 36 [some (.ref (ga g 27 0)), some (.int v1), some (.long v2), none, some (.int v4), w5] [] M := by
  induction n with
  | zero => intro v1 v2 v4 M w5 h; rw [f_X10_judge_36] at h; cases h
  | succ n ih =>
    intro v1 v2 v4 M w5 h
    rw [f_X10_judge_36] at h
    refine kj_ild4 (pc := 36) C dX10_judge_36 ?_
    refine kj_ild1 (pc := 38) C dX10_judge_38 ?_
    refine kj_icmp_ge (pc := 39) C dX10_judge_39 (tgt := 94) (by decide) (fun c1 => ?_) (fun c1 => ?_)
    · have h := of_pos c1 h
      refine kj_bipush (pc := 94) C (v := (-9)) dX10_judge_94 cb_m9 ?_
      cases h
      exact kj_iret (pc := 96) C hr hR dX10_judge_96
    · have h := of_neg c1 h
      refine kj_lld2 (pc := 42) C dX10_judge_42 ?_
      refine kj_ild1 (pc := 43) C dX10_judge_43 ?_
      refine kj_iconst (pc := 44) C (v := 1) dX10_judge_44 ci_1 ?_
      refine kj_isub (pc := 45) C dX10_judge_45 ?_
      refine kj_ild4 (pc := 46) C dX10_judge_46 ?_
      refine kj_isub (pc := 48) C dX10_judge_48 ?_
      obtain ⟨q2, eq2, h⟩ := of_bind h
      refine kj_callS1 (pc := 49) C (ct_X10_thousandTo eq2) (Nat.le_of_ble_eq_true rfl) mi_X10_thousandTo ml_X10_179 rfl as1 (Nat.le_of_ble_eq_true rfl) dX10_judge_49 ?_
      obtain ⟨c3, h⟩ := of_gd h
      refine kj_ldiv (pc := 52) C dX10_judge_52 c3 ?_
      refine kj_ldc2 (pc := 53) C cn_X10_175 dX10_judge_53 ?_
      obtain ⟨x4, ex4, h⟩ := of_lt h
      rw [← ex4]
      refine kj_lrem (pc := 56) C dX10_judge_56 (by decide) ?_
      refine kj_l2i (pc := 57) C dX10_judge_57 ?_
      obtain ⟨x5, ex5, h⟩ := of_lt h
      refine kj_ni ex5 ?_
      refine kj_ist5 (pc := 58) C dX10_judge_58 (Nat.le_of_ble_eq_true rfl) rfl ?_
      refine kj_ald0 (pc := 60) C dX10_judge_60 ?_
      refine kj_ild5 (pc := 61) C dX10_judge_61 ?_
      refine kj_bipush (pc := 63) C (v := 100) dX10_judge_63 cb_100 ?_
      refine kj_idiv (pc := 65) C dX10_judge_65 (by decide) ?_
      refine kj_ild5 (pc := 66) C dX10_judge_66 ?_
      refine kj_bipush (pc := 68) C (v := 10) dX10_judge_68 cb_10 ?_
      refine kj_idiv (pc := 70) C dX10_judge_70 (by decide) ?_
      refine kj_bipush (pc := 71) C (v := 10) dX10_judge_71 cb_10 ?_
      obtain ⟨x6, ex6, h⟩ := of_lt h
      rw [← ex6]
      refine kj_irem (pc := 73) C dX10_judge_73 (by decide) ?_
      refine kj_ild5 (pc := 74) C dX10_judge_74 ?_
      refine kj_bipush (pc := 76) C (v := 10) dX10_judge_76 cb_10 ?_
      refine kj_irem (pc := 78) C dX10_judge_78 (by decide) ?_
      obtain ⟨q7, eq7, h⟩ := of_bind h
      refine kj_callV1 (pc := 79) C (ct_X10_tryThing eq7) (Nat.le_of_ble_eq_true rfl) mi_X10_tryThing ml_X10_183 rc_27 rfl rfl ar3 (Nat.le_of_ble_eq_true rfl) dX10_judge_79 ?_
      refine kj_if_ne (pc := 82) C dX10_judge_82 (tgt := 88) (by decide) (fun c8 => ?_) (fun c8 => ?_)
      · have h := of_neg c8 h
        obtain ⟨x9, ex9, h⟩ := of_lt h
        refine kj_iinc4 (pc := 88) C (v := x9) dX10_judge_88 (Nat.le_of_ble_eq_true rfl) rfl (by rw [ex9, ci_1]) ?_
        refine kj_goto (pc := 91) C dX10_judge_91 (tgt := 36) (by decide) ?_
        exact ih _ _ _ _ _ h
      · have h := of_pos c8 h
        refine kj_ild4 (pc := 85) C dX10_judge_85 ?_
        cases h
        exact kj_iret (pc := 87) C hr hR dX10_judge_87
def f_X10_judge_26 (M : Mem) : Option (Int32 × Mem) := some (((-2) : Int32), M)
set_option maxHeartbeats 4000000 in
set_option maxRecDepth 100000 in
theorem k_X10_judge_26 {g : GT} {X : XT} {t : Int32 × Mem} (C : Cx g X cX10_judge RX10 6 6) (hr : (xt X).sig.returnType = some .int) (hR : Rt g X (some (.int t.1)) t.2) : ∀ (M : Mem) (w0 w1 w2 w3 w4 w5 : Option Value), f_X10_judge_26 M = some t → Kj g X 6 26 [w0, w1, w2, w3, w4, w5] [] M := by
  intro M w0 w1 w2 w3 w4 w5 h
  unfold f_X10_judge_26 at h
  refine kj_bipush (pc := 26) C (v := (-2)) dX10_judge_26 cb_m2 ?_
  cases h
  exact kj_iret (pc := 28) C hr hR dX10_judge_28
def f_X10_judge (v1 : Int32) (v2 : Int64) (M : Mem) : Option (Int32 × Mem) := (f_X10_in v1.toInt64 1 4 M).bind (fun q1 => if q1 = 0 then f_X10_judge_26 M else (f_X10_thousandTo v1 M).bind (fun q3 => (f_X10_in v2 0 (q3 - (1 : Int64)) M).bind (fun q4 => if q4 = 0 then f_X10_judge_26 M else (f_X10_layTrial M).bind (fun q6 => f_X10_judge_36 100 v1 v2 0 q6))))
set_option maxHeartbeats 4000000 in
set_option maxRecDepth 100000 in
theorem ct_X10_judge {g : GT} {l : Launch} {v1 : Int32} {v2 : Int64} {M : Mem} {t : Int32 × Mem} (h : f_X10_judge v1 v2 M = some t) : Ct g l 6 yX10_judge cX10_judge 6 (some .int) [.ref (ga g 27 0), .int v1, .long v2] M (some (.int t.1)) t.2 := by
  refine ct_of (k := 2) (by decide) (Nat.le_of_ble_eq_true rfl) rfl (fun X C hl hr hR => ?_)
  subst hl
  have C : Cx g X cX10_judge RX10 6 6 := C
  unfold f_X10_judge at h
  refine kj_ild1 (pc := 0) C dX10_judge_0 ?_
  refine kj_i2l (pc := 1) C dX10_judge_1 ?_
  refine kj_lconst (pc := 2) C (v := 1) dX10_judge_2 cl_1 ?_
  refine kj_ldc2 (pc := 3) C cn_X10_177 dX10_judge_3 ?_
  obtain ⟨q1, eq1, h⟩ := of_bind h
  refine kj_callS1 (pc := 6) C (ct_X10_in eq1) (Nat.le_of_ble_eq_true rfl) mi_X10_in ml_X10_59 rfl as3 (Nat.le_of_ble_eq_true rfl) dX10_judge_6 ?_
  refine kj_if_eq (pc := 9) C dX10_judge_9 (tgt := 26) (by decide) (fun c2 => ?_) (fun c2 => ?_)
  · have h := of_pos c2 h
    exact k_X10_judge_26 C hr hR  _ _ _ _ _ _ _ h
  · have h := of_neg c2 h
    refine kj_lld2 (pc := 12) C dX10_judge_12 ?_
    refine kj_lconst (pc := 13) C (v := 0) dX10_judge_13 cl_0 ?_
    refine kj_ild1 (pc := 14) C dX10_judge_14 ?_
    obtain ⟨q3, eq3, h⟩ := of_bind h
    refine kj_callS1 (pc := 15) C (ct_X10_thousandTo eq3) (Nat.le_of_ble_eq_true rfl) mi_X10_thousandTo ml_X10_179 rfl as1 (Nat.le_of_ble_eq_true rfl) dX10_judge_15 ?_
    refine kj_lconst (pc := 18) C (v := 1) dX10_judge_18 cl_1 ?_
    refine kj_lsub (pc := 19) C dX10_judge_19 ?_
    obtain ⟨q4, eq4, h⟩ := of_bind h
    refine kj_callS1 (pc := 20) C (ct_X10_in eq4) (Nat.le_of_ble_eq_true rfl) mi_X10_in ml_X10_59 rfl as3 (Nat.le_of_ble_eq_true rfl) dX10_judge_20 ?_
    refine kj_if_ne (pc := 23) C dX10_judge_23 (tgt := 29) (by decide) (fun c5 => ?_) (fun c5 => ?_)
    · have h := of_neg c5 h
      refine kj_ald0 (pc := 29) C dX10_judge_29 ?_
      obtain ⟨q6, eq6, h⟩ := of_bind h
      refine kj_callV0 (pc := 30) C (ct_X10_layTrial eq6) (Nat.le_of_ble_eq_true rfl) mi_X10_layTrial ml_X10_155 rc_27 rfl rfl ar0 (Nat.le_of_ble_eq_true rfl) dX10_judge_30 ?_
      refine kj_iconst (pc := 33) C (v := 0) dX10_judge_33 ci_0 ?_
      refine kj_ist4 (pc := 34) C dX10_judge_34 (Nat.le_of_ble_eq_true rfl) rfl ?_
      exact k_X10_judge_36 C hr hR 100 _ _ _ _ _ h
    · have h := of_pos c5 h
      exact k_X10_judge_26 C hr hR  _ _ _ _ _ _ _ h
def f_X10_hear_34 (M : Mem) : Option (Int32 × Mem) := some (((-2) : Int32), M)
set_option maxHeartbeats 4000000 in
set_option maxRecDepth 100000 in
theorem k_X10_hear_34 {g : GT} {X : XT} {t : Int32 × Mem} (C : Cx g X cX10_hear RX10 4 2) (hr : (xt X).sig.returnType = some .int) (hR : Rt g X (some (.int t.1)) t.2) : ∀ (M : Mem) (w0 w1 w2 w3 : Option Value), f_X10_hear_34 M = some t → Kj g X 4 34 [w0, w1, w2, w3] [] M := by
  intro M w0 w1 w2 w3 h
  unfold f_X10_hear_34 at h
  refine kj_bipush (pc := 34) C (v := (-2)) dX10_hear_34 cb_m2 ?_
  cases h
  exact kj_iret (pc := 36) C hr hR dX10_hear_36
def f_X10_hear (v1 : Int32) (v2 : Int32) (v3 : Int32) (M : Mem) : Option (Int32 × Mem) := (f_X10_isSinger v1 M).bind (fun q1 => if q1 = 0 then some (((-1) : Int32), M) else (f_X10_in v2.toInt64 0 9 M).bind (fun q3 => if q3 = 0 then f_X10_hear_34 M else (f_X10_in v3.toInt64 0 9 M).bind (fun q5 => if q5 = 0 then f_X10_hear_34 M else if (M.1 27 0 18) = 6 then some (((-4) : Int32), M) else lt_ (M.1 27 0 18) (fun x9 => if ¬ (x9 < 0 ∨ 6 ≤ x9.toNatClampNeg) then lt_ (sw M 27 10 x9.toNatClampNeg v1) (fun M10 => lt_ (M10.1 27 0 18) (fun x12 => if ¬ (x12 < 0 ∨ 6 ≤ x12.toNatClampNeg) then lt_ (sw M10 27 11 x12.toNatClampNeg v2) (fun M13 => lt_ (M13.1 27 0 18) (fun x15 => if ¬ (x15 < 0 ∨ 6 ≤ x15.toNatClampNeg) then lt_ (sw M13 27 12 x15.toNatClampNeg v3) (fun M16 => lt_ (sw M16 27 0 18 ((M16.1 27 0 18) + (1 : Int32))) (fun M17 => some (M17.1 27 0 18, M17))) else none)) else none)) else none))))
set_option maxHeartbeats 4000000 in
set_option maxRecDepth 100000 in
theorem ct_X10_hear {g : GT} {l : Launch} {v1 : Int32} {v2 : Int32} {v3 : Int32} {M : Mem} {t : Int32 × Mem} (h : f_X10_hear v1 v2 v3 M = some t) : Ct g l 2 yX10_hear cX10_hear 4 (some .int) [.ref (ga g 27 0), .int v1, .int v2, .int v3] M (some (.int t.1)) t.2 := by
  refine ct_of (k := 0) (by decide) (Nat.le_of_ble_eq_true rfl) rfl (fun X C hl hr hR => ?_)
  subst hl
  have C : Cx g X cX10_hear RX10 4 2 := C
  unfold f_X10_hear at h
  refine kj_ald0 (pc := 0) C dX10_hear_0 ?_
  refine kj_ild1 (pc := 1) C dX10_hear_1 ?_
  obtain ⟨q1, eq1, h⟩ := of_bind h
  refine kj_callV1 (pc := 2) C (ct_X10_isSinger eq1) (Nat.le_of_ble_eq_true rfl) mi_X10_isSinger ml_X10_119 rc_27 rfl rfl ar1 (Nat.le_of_ble_eq_true rfl) dX10_hear_2 ?_
  refine kj_if_ne (pc := 5) C dX10_hear_5 (tgt := 10) (by decide) (fun c2 => ?_) (fun c2 => ?_)
  · have h := of_neg c2 h
    refine kj_ild2 (pc := 10) C dX10_hear_10 ?_
    refine kj_i2l (pc := 11) C dX10_hear_11 ?_
    refine kj_lconst (pc := 12) C (v := 0) dX10_hear_12 cl_0 ?_
    refine kj_ldc2 (pc := 13) C cn_X10_72 dX10_hear_13 ?_
    obtain ⟨q3, eq3, h⟩ := of_bind h
    refine kj_callS1 (pc := 16) C (ct_X10_in eq3) (Nat.le_of_ble_eq_true rfl) mi_X10_in ml_X10_59 rfl as3 (Nat.le_of_ble_eq_true rfl) dX10_hear_16 ?_
    refine kj_if_eq (pc := 19) C dX10_hear_19 (tgt := 34) (by decide) (fun c4 => ?_) (fun c4 => ?_)
    · have h := of_pos c4 h
      exact k_X10_hear_34 C hr hR  _ _ _ _ _ h
    · have h := of_neg c4 h
      refine kj_ild3 (pc := 22) C dX10_hear_22 ?_
      refine kj_i2l (pc := 23) C dX10_hear_23 ?_
      refine kj_lconst (pc := 24) C (v := 0) dX10_hear_24 cl_0 ?_
      refine kj_ldc2 (pc := 25) C cn_X10_72 dX10_hear_25 ?_
      obtain ⟨q5, eq5, h⟩ := of_bind h
      refine kj_callS1 (pc := 28) C (ct_X10_in eq5) (Nat.le_of_ble_eq_true rfl) mi_X10_in ml_X10_59 rfl as3 (Nat.le_of_ble_eq_true rfl) dX10_hear_28 ?_
      refine kj_if_ne (pc := 31) C dX10_hear_31 (tgt := 37) (by decide) (fun c6 => ?_) (fun c6 => ?_)
      · have h := of_neg c6 h
        refine kj_ald0 (pc := 37) C dX10_hear_37 ?_
        refine gf_X10_187 (pc := 38) C dX10_hear_38 ?_
        refine kj_bipush (pc := 41) C (v := 6) dX10_hear_41 cb_6 ?_
        refine kj_icmp_ne (pc := 43) C dX10_hear_43 (tgt := 49) (by decide) (fun c7 => ?_) (fun c7 => ?_)
        · have h := of_neg c7 h
          refine kj_ald0 (pc := 49) C dX10_hear_49 ?_
          refine gf_X10_41 (pc := 50) C dX10_hear_50 ?_
          refine kj_ald0 (pc := 53) C dX10_hear_53 ?_
          refine gf_X10_187 (pc := 54) C dX10_hear_54 ?_
          refine kj_ild1 (pc := 57) C dX10_hear_57 ?_
          obtain ⟨x9, ex9, h⟩ := of_lt h
          refine kj_ni2 ex9 ?_
          obtain ⟨c8, h⟩ := of_gd h
          obtain ⟨M10, eM10, h⟩ := of_lt h
          refine kj_iast2 (pc := 58) C ia_27_10 c8 dX10_hear_58 ?_
          refine kj_nM eM10 ?_
          refine kj_ald0 (pc := 59) C dX10_hear_59 ?_
          refine gf_X10_44 (pc := 60) C dX10_hear_60 ?_
          refine kj_ald0 (pc := 63) C dX10_hear_63 ?_
          refine gf_X10_187 (pc := 64) C dX10_hear_64 ?_
          refine kj_ild2 (pc := 67) C dX10_hear_67 ?_
          obtain ⟨x12, ex12, h⟩ := of_lt h
          refine kj_ni2 ex12 ?_
          obtain ⟨c11, h⟩ := of_gd h
          obtain ⟨M13, eM13, h⟩ := of_lt h
          refine kj_iast2 (pc := 68) C ia_27_11 c11 dX10_hear_68 ?_
          refine kj_nM eM13 ?_
          refine kj_ald0 (pc := 69) C dX10_hear_69 ?_
          refine gf_X10_47 (pc := 70) C dX10_hear_70 ?_
          refine kj_ald0 (pc := 73) C dX10_hear_73 ?_
          refine gf_X10_187 (pc := 74) C dX10_hear_74 ?_
          refine kj_ild3 (pc := 77) C dX10_hear_77 ?_
          obtain ⟨x15, ex15, h⟩ := of_lt h
          refine kj_ni2 ex15 ?_
          obtain ⟨c14, h⟩ := of_gd h
          obtain ⟨M16, eM16, h⟩ := of_lt h
          refine kj_iast2 (pc := 78) C ia_27_12 c14 dX10_hear_78 ?_
          refine kj_nM eM16 ?_
          refine kj_ald0 (pc := 79) C dX10_hear_79 ?_
          refine kj_dup (pc := 80) C dX10_hear_80 rfl ?_
          refine gf_X10_187 (pc := 81) C dX10_hear_81 ?_
          refine kj_iconst (pc := 84) C (v := 1) dX10_hear_84 ci_1 ?_
          refine kj_iadd (pc := 85) C dX10_hear_85 ?_
          obtain ⟨M17, eM17, h⟩ := of_lt h
          refine pf_X10_187 (pc := 86) C dX10_hear_86 ?_
          refine kj_nM eM17 ?_
          refine kj_ald0 (pc := 89) C dX10_hear_89 ?_
          refine gf_X10_187 (pc := 90) C dX10_hear_90 ?_
          cases h
          exact kj_iret (pc := 93) C hr hR dX10_hear_93
        · have h := of_pos c7 h
          refine kj_bipush (pc := 46) C (v := (-4)) dX10_hear_46 cb_m4 ?_
          cases h
          exact kj_iret (pc := 48) C hr hR dX10_hear_48
      · have h := of_pos c6 h
        exact k_X10_hear_34 C hr hR  _ _ _ _ _ h
  · have h := of_pos c2 h
    refine kj_iconst (pc := 8) C (v := (-1)) dX10_hear_8 ci_m1 ?_
    cases h
    exact kj_iret (pc := 9) C hr hR dX10_hear_9
def f_X10_unhear (M : Mem) : Option (Int32 × Mem) := lt_ (M.1 27 0 18) (fun x1 => lt_ (sw M 27 0 18 0) (fun M2 => some (x1, M2)))
set_option maxHeartbeats 4000000 in
set_option maxRecDepth 100000 in
theorem ct_X10_unhear {g : GT} {l : Launch} {M : Mem} {t : Int32 × Mem} (h : f_X10_unhear M = some t) : Ct g l 0 yX10_unhear cX10_unhear 2 (some .int) [.ref (ga g 27 0)] M (some (.int t.1)) t.2 := by
  refine ct_of (k := 1) (by decide) (Nat.le_of_ble_eq_true rfl) rfl (fun X C hl hr hR => ?_)
  subst hl
  have C : Cx g X cX10_unhear RX10 2 0 := C
  unfold f_X10_unhear at h
  refine kj_ald0 (pc := 0) C dX10_unhear_0 ?_
  refine gf_X10_187 (pc := 1) C dX10_unhear_1 ?_
  obtain ⟨x1, ex1, h⟩ := of_lt h
  refine kj_ni ex1 ?_
  refine kj_ist1 (pc := 4) C dX10_unhear_4 (Nat.le_of_ble_eq_true rfl) rfl ?_
  refine kj_ald0 (pc := 5) C dX10_unhear_5 ?_
  refine kj_iconst (pc := 6) C (v := 0) dX10_unhear_6 ci_0 ?_
  obtain ⟨M2, eM2, h⟩ := of_lt h
  refine pf_X10_187 (pc := 7) C dX10_unhear_7 ?_
  refine kj_nM eM2 ?_
  refine kj_ild1 (pc := 10) C dX10_unhear_10 ?_
  cases h
  exact kj_iret (pc := 11) C hr hR dX10_unhear_11
