def f_X2_leastGift_102 (s0 : Int32) (M : Mem) : Option (Int32 × Mem) := some (s0, M)
set_option maxHeartbeats 4000000 in
set_option maxRecDepth 100000 in
theorem k_X2_leastGift_102 {g : GT} {X : XT} {t : Int32 × Mem} (C : Cx g X cX2_leastGift RX2 7 5) (hr : (xt X).sig.returnType = some .int) (hR : Rt g X (some (.int t.1)) t.2) : ∀ (s0 : Int32) (M : Mem) (w0 w1 w2 w3 w4 w5 w6 : Option Value), f_X2_leastGift_102 s0 M = some t → Kj g X 7 102 [w0, w1, w2, w3, w4, w5, w6] [.int s0] M := by
  intro s0 M w0 w1 w2 w3 w4 w5 w6 h
  unfold f_X2_leastGift_102 at h
  cases h
  exact kj_iret (pc := 102) C hr hR dX2_leastGift_102
def f_X2_leastGift_35 (k25 : Int32 → Int32 → Int32 → Int32 → Int32 → Mem → Option (Int32 × Mem)) (n : Nat) (v1 : Int32) (v2 : Int32) (v3 : Int32) (v4 : Int32) (v5 : Int32) (v6 : Int32) (M : Mem) : Option (Int32 × Mem) := match n with
  | 0 => none
  | n + 1 => if (M.1 19 0 3) ≤ v6 then lt_ (v5 + 1) (fun x2 => k25 v1 v2 v3 v4 x2 M) else (f_X7_copyFrom 1 0 M).bind (fun q3 => (f_X7_give 1 v6 v5 q3).bind (fun q4 => (f_X7_goOn 1 v3 q4).bind (fun q5 => if ¬ (v1 < 0 ∨ 6 ≤ v1.toNatClampNeg) then if (q5.1 1 3 v1.toNatClampNeg) = v2 then if v4 = 0 then f_X2_leastGift_102 v5 q5 else f_X2_leastGift_102 v6 q5 else lt_ (v6 + 1) (fun x8 => f_X2_leastGift_35 k25 n v1 v2 v3 v4 v5 x8 q5) else none)))
set_option maxHeartbeats 4000000 in
set_option maxRecDepth 100000 in
theorem k_X2_leastGift_35 {g : GT} {X : XT} {k25 : Int32 → Int32 → Int32 → Int32 → Int32 → Mem → Option (Int32 × Mem)} {t : Int32 × Mem} (C : Cx g X cX2_leastGift RX2 7 5) (hr : (xt X).sig.returnType = some .int) (hR : Rt g X (some (.int t.1)) t.2) (hk25 : ∀ (v1 : Int32) (v2 : Int32) (v3 : Int32) (v4 : Int32) (v5 : Int32) (M : Mem) (w6 : Option Value), k25 v1 v2 v3 v4 v5 M = some t → Kj g X 7 25 [some (.ref (ga g 24 0)), some (.int v1), some (.int v2), some (.int v3), some (.int v4), some (.int v5), w6] [] M) (n : Nat) : ∀ (v1 : Int32) (v2 : Int32) (v3 : Int32) (v4 : Int32) (v5 : Int32) (v6 : Int32) (M : Mem), f_X2_leastGift_35 k25 n v1 v2 v3 v4 v5 v6 M = some t → Kj g X 7 35 [some (.ref (ga g 24 0)), some (.int v1), some (.int v2), some (.int v3), some (.int v4), some (.int v5), some (.int v6)] [] M := by
  induction n with
  | zero => intro v1 v2 v3 v4 v5 v6 M h; rw [f_X2_leastGift_35] at h; cases h
  | succ n ih =>
    intro v1 v2 v3 v4 v5 v6 M h
    rw [f_X2_leastGift_35] at h
    refine kj_ild6 (pc := 35) C dX2_leastGift_35 ?_
    refine kj_ald0 (pc := 37) C dX2_leastGift_37 ?_
    refine gf_X2_15 (pc := 38) C dX2_leastGift_38 ?_
    refine gf_X2_50 (pc := 41) C dX2_leastGift_41 ?_
    refine kj_icmp_ge (pc := 44) C dX2_leastGift_44 (tgt := 109) (by decide) (fun c1 => ?_) (fun c1 => ?_)
    · have h := of_pos c1 h
      obtain ⟨x2, ex2, h⟩ := of_lt h
      refine kj_iinc5 (pc := 109) C (v := x2) dX2_leastGift_109 (Nat.le_of_ble_eq_true rfl) rfl (by rw [ex2, ci_1]) ?_
      refine kj_goto (pc := 112) C dX2_leastGift_112 (tgt := 25) (by decide) ?_
      exact hk25 _ _ _ _ _ _ _ h
    · have h := of_neg c1 h
      refine kj_ald0 (pc := 47) C dX2_leastGift_47 ?_
      refine gf_X2_23 (pc := 48) C dX2_leastGift_48 ?_
      refine kj_ald0 (pc := 51) C dX2_leastGift_51 ?_
      refine gf_X2_19 (pc := 52) C dX2_leastGift_52 ?_
      obtain ⟨q3, eq3, h⟩ := of_bind h
      refine kj_callVN0 (pc := 55) C (ct_X7_copyFrom h18_1 h18_0 eq3) (Nat.le_of_ble_eq_true rfl) mi_X7_copyFrom ml_X2_26 (rc_st h18_1) rfl rfl ar1 (Nat.le_of_ble_eq_true rfl) dX2_leastGift_55 ?_
      refine kj_ald0 (pc := 58) C dX2_leastGift_58 ?_
      refine gf_X2_23 (pc := 59) C dX2_leastGift_59 ?_
      refine kj_ild6 (pc := 62) C dX2_leastGift_62 ?_
      refine kj_ild5 (pc := 64) C dX2_leastGift_64 ?_
      obtain ⟨q4, eq4, h⟩ := of_bind h
      refine kj_callVN0 (pc := 66) C (ct_X7_give h18_1 eq4) (Nat.le_of_ble_eq_true rfl) mi_X7_give ml_X2_56 (rc_st h18_1) rfl rfl ar2 (Nat.le_of_ble_eq_true rfl) dX2_leastGift_66 ?_
      refine kj_ald0 (pc := 69) C dX2_leastGift_69 ?_
      refine gf_X2_23 (pc := 70) C dX2_leastGift_70 ?_
      refine kj_ild3 (pc := 73) C dX2_leastGift_73 ?_
      obtain ⟨q5, eq5, h⟩ := of_bind h
      refine kj_callVN0 (pc := 74) C (ct_X7_goOn h18_1 eq5) (Nat.le_of_ble_eq_true rfl) mi_X7_goOn ml_X2_32 (rc_st h18_1) rfl rfl ar1 (Nat.le_of_ble_eq_true rfl) dX2_leastGift_74 ?_
      refine kj_ald0 (pc := 77) C dX2_leastGift_77 ?_
      refine gf_X2_23 (pc := 78) C dX2_leastGift_78 ?_
      refine gf_X2_36 (pc := 81) C h18_1 dX2_leastGift_81 ?_
      refine kj_ild1 (pc := 84) C dX2_leastGift_84 ?_
      obtain ⟨c6, h⟩ := of_gd h
      refine kj_iald2 (pc := 85) C (ia_st h18_1 ⟨by decide, by decide⟩) c6 dX2_leastGift_85 ?_
      refine kj_ild2 (pc := 86) C dX2_leastGift_86 ?_
      refine kj_icmp_ne (pc := 87) C dX2_leastGift_87 (tgt := 103) (by decide) (fun c7 => ?_) (fun c7 => ?_)
      · have h := of_neg c7 h
        obtain ⟨x8, ex8, h⟩ := of_lt h
        refine kj_iinc6 (pc := 103) C (v := x8) dX2_leastGift_103 (Nat.le_of_ble_eq_true rfl) rfl (by rw [ex8, ci_1]) ?_
        refine kj_goto (pc := 106) C dX2_leastGift_106 (tgt := 35) (by decide) ?_
        exact ih _ _ _ _ _ _ _ h
      · have h := of_pos c7 h
        refine kj_ild4 (pc := 90) C dX2_leastGift_90 ?_
        refine kj_if_eq (pc := 92) C dX2_leastGift_92 (tgt := 100) (by decide) (fun c9 => ?_) (fun c9 => ?_)
        · have h := of_pos c9 h
          refine kj_ild5 (pc := 100) C dX2_leastGift_100 ?_
          exact k_X2_leastGift_102 C hr hR _ _ _ _ _ _ _ _ _ h
        · have h := of_neg c9 h
          refine kj_ild6 (pc := 95) C dX2_leastGift_95 ?_
          refine kj_goto (pc := 97) C dX2_leastGift_97 (tgt := 102) (by decide) ?_
          exact k_X2_leastGift_102 C hr hR _ _ _ _ _ _ _ _ _ h
def f_X2_leastGift_25 (n : Nat) (v1 : Int32) (v2 : Int32) (v3 : Int32) (v4 : Int32) (v5 : Int32) (M : Mem) : Option (Int32 × Mem) := match n with
  | 0 => none
  | n + 1 => if 9 < v5 then some (((-9) : Int32), M) else f_X2_leastGift_35 (f_X2_leastGift_25 n) 100 v1 v2 v3 v4 v5 0 M
set_option maxHeartbeats 4000000 in
set_option maxRecDepth 100000 in
theorem k_X2_leastGift_25 {g : GT} {X : XT} {t : Int32 × Mem} (C : Cx g X cX2_leastGift RX2 7 5) (hr : (xt X).sig.returnType = some .int) (hR : Rt g X (some (.int t.1)) t.2) (n : Nat) : ∀ (v1 : Int32) (v2 : Int32) (v3 : Int32) (v4 : Int32) (v5 : Int32) (M : Mem) (w6 : Option Value), f_X2_leastGift_25 n v1 v2 v3 v4 v5 M = some t → Kj g X 7 25 [some (.ref (ga g 24 0)), some (.int v1), some (.int v2), some (.int v3), some (.int v4), some (.int v5), w6] [] M := by
  induction n with
  | zero => intro v1 v2 v3 v4 v5 M w6 h; rw [f_X2_leastGift_25] at h; cases h
  | succ n ih =>
    intro v1 v2 v3 v4 v5 M w6 h
    rw [f_X2_leastGift_25] at h
    refine kj_ild5 (pc := 25) C dX2_leastGift_25 ?_
    refine kj_bipush (pc := 27) C (v := 9) dX2_leastGift_27 cb_9 ?_
    refine kj_icmp_gt (pc := 29) C dX2_leastGift_29 (tgt := 115) (by decide) (fun c1 => ?_) (fun c1 => ?_)
    · have h := of_pos c1 h
      refine kj_bipush (pc := 115) C (v := (-9)) dX2_leastGift_115 cb_m9 ?_
      cases h
      exact kj_iret (pc := 117) C hr hR dX2_leastGift_117
    · have h := of_neg c1 h
      refine kj_iconst (pc := 32) C (v := 0) dX2_leastGift_32 ci_0 ?_
      refine kj_ist6 (pc := 33) C dX2_leastGift_33 (Nat.le_of_ble_eq_true rfl) rfl ?_
      exact k_X2_leastGift_35 C hr hR ih 100 _ _ _ _ _ _ _ h
def f_X2_leastGift_21 (s0 : Int32) (M : Mem) : Option (Int32 × Mem) := some (s0, M)
set_option maxHeartbeats 4000000 in
set_option maxRecDepth 100000 in
theorem k_X2_leastGift_21 {g : GT} {X : XT} {t : Int32 × Mem} (C : Cx g X cX2_leastGift RX2 7 5) (hr : (xt X).sig.returnType = some .int) (hR : Rt g X (some (.int t.1)) t.2) : ∀ (s0 : Int32) (M : Mem) (w0 w1 w2 w3 w4 w5 w6 : Option Value), f_X2_leastGift_21 s0 M = some t → Kj g X 7 21 [w0, w1, w2, w3, w4, w5, w6] [.int s0] M := by
  intro s0 M w0 w1 w2 w3 w4 w5 w6 h
  unfold f_X2_leastGift_21 at h
  cases h
  exact kj_iret (pc := 21) C hr hR dX2_leastGift_21
def f_X2_leastGift (v1 : Int32) (v2 : Int32) (v3 : Int32) (v4 : Int32) (M : Mem) : Option (Int32 × Mem) := (f_X2_noteBehind v1 v3 M).bind (fun q1 => if q1.1 = v2 then if v4 = 0 then f_X2_leastGift_21 0 q1.2 else f_X2_leastGift_21 (-9) q1.2 else f_X2_leastGift_25 100 v1 v2 v3 v4 1 q1.2)
set_option maxHeartbeats 4000000 in
set_option maxRecDepth 100000 in
theorem ct_X2_leastGift {g : GT} {l : Launch} {v1 : Int32} {v2 : Int32} {v3 : Int32} {v4 : Int32} {M : Mem} {t : Int32 × Mem} (h : f_X2_leastGift v1 v2 v3 v4 M = some t) : Ct g l 5 yX2_leastGift cX2_leastGift 7 (some .int) [.ref (ga g 24 0), .int v1, .int v2, .int v3, .int v4] M (some (.int t.1)) t.2 := by
  refine ct_of (k := 2) (by decide) (Nat.le_of_ble_eq_true rfl) rfl (fun X C hl hr hR => ?_)
  subst hl
  have C : Cx g X cX2_leastGift RX2 7 5 := C
  unfold f_X2_leastGift at h
  refine kj_ald0 (pc := 0) C dX2_leastGift_0 ?_
  refine kj_ild1 (pc := 1) C dX2_leastGift_1 ?_
  refine kj_ild3 (pc := 2) C dX2_leastGift_2 ?_
  obtain ⟨q1, eq1, h⟩ := of_bind h
  refine kj_callV1 (pc := 3) C (ct_X2_noteBehind eq1) (Nat.le_of_ble_eq_true rfl) mi_X2_noteBehind ml_X2_46 rc_24 rfl rfl ar2 (Nat.le_of_ble_eq_true rfl) dX2_leastGift_3 ?_
  refine kj_ild2 (pc := 6) C dX2_leastGift_6 ?_
  refine kj_icmp_ne (pc := 7) C dX2_leastGift_7 (tgt := 22) (by decide) (fun c2 => ?_) (fun c2 => ?_)
  · have h := of_neg c2 h
    refine kj_iconst (pc := 22) C (v := 1) dX2_leastGift_22 ci_1 ?_
    refine kj_ist5 (pc := 23) C dX2_leastGift_23 (Nat.le_of_ble_eq_true rfl) rfl ?_
    exact k_X2_leastGift_25 C hr hR 100 _ _ _ _ _ _ _ h
  · have h := of_pos c2 h
    refine kj_ild4 (pc := 10) C dX2_leastGift_10 ?_
    refine kj_if_eq (pc := 12) C dX2_leastGift_12 (tgt := 20) (by decide) (fun c3 => ?_) (fun c3 => ?_)
    · have h := of_pos c3 h
      refine kj_iconst (pc := 20) C (v := 0) dX2_leastGift_20 ci_0 ?_
      exact k_X2_leastGift_21 C hr hR _ _ _ _ _ _ _ _ _ h
    · have h := of_neg c3 h
      refine kj_bipush (pc := 15) C (v := (-9)) dX2_leastGift_15 cb_m9 ?_
      refine kj_goto (pc := 17) C dX2_leastGift_17 (tgt := 21) (by decide) ?_
      exact k_X2_leastGift_21 C hr hR _ _ _ _ _ _ _ _ _ h
def f_X7_swapSeats (o : Nat) (v1 : Int32) (v2 : Int32) (M : Mem) : Option (Mem) := if ¬ (v1 < 0 ∨ 6 ≤ v1.toNatClampNeg) then lt_ (M.1 o 1 v1.toNatClampNeg) (fun x2 => if ¬ (v2 < 0 ∨ 6 ≤ v2.toNatClampNeg) then if ¬ (v1 < 0 ∨ 6 ≤ v1.toNatClampNeg) then lt_ (sw M o 1 v1.toNatClampNeg (M.1 o 1 v2.toNatClampNeg)) (fun M5 => if ¬ (v2 < 0 ∨ 6 ≤ v2.toNatClampNeg) then lt_ (sw M5 o 1 v2.toNatClampNeg x2) (fun M7 => some M7) else none) else none else none) else none
set_option maxHeartbeats 4000000 in
set_option maxRecDepth 100000 in
theorem ct_X7_swapSeats {g : GT} {l : Launch} {o : Nat} {v1 : Int32} {v2 : Int32} {M : Mem} {t : Mem} (ho : o < 18) (h : f_X7_swapSeats o v1 v2 M = some t) : Ct g l 0 yX7_swapSeats cX7_swapSeats 4 (none) [.ref (ga g o 0), .int v1, .int v2] M (none) t := by
  refine ct_of (k := 1) (by decide) (Nat.le_of_ble_eq_true rfl) rfl (fun X C hl hr hR => ?_)
  subst hl
  have C : Cx g X cX7_swapSeats RX7 4 0 := C
  unfold f_X7_swapSeats at h
  refine kj_ald0 (pc := 0) C dX7_swapSeats_0 ?_
  refine gf_X7_9 (pc := 1) C ho dX7_swapSeats_1 ?_
  refine kj_ild1 (pc := 4) C dX7_swapSeats_4 ?_
  obtain ⟨c1, h⟩ := of_gd h
  refine kj_iald2 (pc := 5) C (ia_st ho ⟨by decide, by decide⟩) c1 dX7_swapSeats_5 ?_
  obtain ⟨x2, ex2, h⟩ := of_lt h
  refine kj_ni ex2 ?_
  refine kj_ist3 (pc := 6) C dX7_swapSeats_6 (Nat.le_of_ble_eq_true rfl) rfl ?_
  refine kj_ald0 (pc := 7) C dX7_swapSeats_7 ?_
  refine gf_X7_9 (pc := 8) C ho dX7_swapSeats_8 ?_
  refine kj_ild1 (pc := 11) C dX7_swapSeats_11 ?_
  refine kj_ald0 (pc := 12) C dX7_swapSeats_12 ?_
  refine gf_X7_9 (pc := 13) C ho dX7_swapSeats_13 ?_
  refine kj_ild2 (pc := 16) C dX7_swapSeats_16 ?_
  obtain ⟨c3, h⟩ := of_gd h
  refine kj_iald2 (pc := 17) C (ia_st ho ⟨by decide, by decide⟩) c3 dX7_swapSeats_17 ?_
  obtain ⟨c4, h⟩ := of_gd h
  obtain ⟨M5, eM5, h⟩ := of_lt h
  refine kj_iast2 (pc := 18) C (ia_st ho ⟨by decide, by decide⟩) c4 dX7_swapSeats_18 ?_
  refine kj_nM eM5 ?_
  refine kj_ald0 (pc := 19) C dX7_swapSeats_19 ?_
  refine gf_X7_9 (pc := 20) C ho dX7_swapSeats_20 ?_
  refine kj_ild2 (pc := 23) C dX7_swapSeats_23 ?_
  refine kj_ild3 (pc := 24) C dX7_swapSeats_24 ?_
  obtain ⟨c6, h⟩ := of_gd h
  obtain ⟨M7, eM7, h⟩ := of_lt h
  refine kj_iast2 (pc := 25) C (ia_st ho ⟨by decide, by decide⟩) c6 dX7_swapSeats_25 ?_
  refine kj_nM eM7 ?_
  cases h
  exact kj_vret (pc := 26) C hr hR dX7_swapSeats_26
def f_X2_richestChange_123 (s0 : Int32) (M : Mem) : Option (Int32 × Mem) := some (s0, M)
set_option maxHeartbeats 4000000 in
set_option maxRecDepth 100000 in
theorem k_X2_richestChange_123 {g : GT} {X : XT} {t : Int32 × Mem} (C : Cx g X cX2_richestChange RX2 8 5) (hr : (xt X).sig.returnType = some .int) (hR : Rt g X (some (.int t.1)) t.2) : ∀ (s0 : Int32) (M : Mem) (w0 w1 w2 w3 w4 w5 w6 w7 : Option Value), f_X2_richestChange_123 s0 M = some t → Kj g X 8 123 [w0, w1, w2, w3, w4, w5, w6, w7] [.int s0] M := by
  intro s0 M w0 w1 w2 w3 w4 w5 w6 w7 h
  unfold f_X2_richestChange_123 at h
  cases h
  exact kj_iret (pc := 123) C hr hR dX2_richestChange_123
def f_X2_richestChange_101 (k13 : Int32 → Int32 → Int32 → Int32 → Int32 → Mem → Option (Int32 × Mem)) (k31 : Int32 → Int32 → Int32 → Int32 → Int32 → Int32 → Mem → Option (Int32 × Mem)) (v1 : Int32) (v2 : Int32) (v3 : Int32) (v4 : Int32) (v5 : Int32) (v6 : Int32) (M : Mem) : Option (Int32 × Mem) := lt_ (v6 + 1) (fun x1 => k31 v1 v2 v3 v4 v5 x1 M)
set_option maxHeartbeats 4000000 in
set_option maxRecDepth 100000 in
theorem k_X2_richestChange_101 {g : GT} {X : XT} {k13 : Int32 → Int32 → Int32 → Int32 → Int32 → Mem → Option (Int32 × Mem)} {k31 : Int32 → Int32 → Int32 → Int32 → Int32 → Int32 → Mem → Option (Int32 × Mem)} {t : Int32 × Mem} (C : Cx g X cX2_richestChange RX2 8 5) (hr : (xt X).sig.returnType = some .int) (hR : Rt g X (some (.int t.1)) t.2) (hk13 : ∀ (v1 : Int32) (v2 : Int32) (v3 : Int32) (v4 : Int32) (v5 : Int32) (M : Mem) (w6 w7 : Option Value), k13 v1 v2 v3 v4 v5 M = some t → Kj g X 8 13 [some (.ref (ga g 24 0)), some (.int v1), some (.int v2), some (.int v3), some (.int v4), some (.int v5), w6, w7] [] M) (hk31 : ∀ (v1 : Int32) (v2 : Int32) (v3 : Int32) (v4 : Int32) (v5 : Int32) (v6 : Int32) (M : Mem) (w7 : Option Value), k31 v1 v2 v3 v4 v5 v6 M = some t → Kj g X 8 31 [some (.ref (ga g 24 0)), some (.int v1), some (.int v2), some (.int v3), some (.int v4), some (.int v5), some (.int v6), w7] [] M) : ∀ (v1 : Int32) (v2 : Int32) (v3 : Int32) (v4 : Int32) (v5 : Int32) (v6 : Int32) (M : Mem) (w7 : Option Value), f_X2_richestChange_101 k13 k31 v1 v2 v3 v4 v5 v6 M = some t → Kj g X 8 101 [some (.ref (ga g 24 0)), some (.int v1), some (.int v2), some (.int v3), some (.int v4), some (.int v5), some (.int v6), w7] [] M := by
  intro v1 v2 v3 v4 v5 v6 M w7 h
  unfold f_X2_richestChange_101 at h
  obtain ⟨x1, ex1, h⟩ := of_lt h
  refine kj_iinc6 (pc := 101) C (v := x1) dX2_richestChange_101 (Nat.le_of_ble_eq_true rfl) rfl (by rw [ex1, ci_1]) ?_
  refine kj_goto (pc := 104) C dX2_richestChange_104 (tgt := 31) (by decide) ?_
  exact hk31 _ _ _ _ _ _ _ _ h
def f_X2_richestChange_31 (k13 : Int32 → Int32 → Int32 → Int32 → Int32 → Mem → Option (Int32 × Mem)) (n : Nat) (v1 : Int32) (v2 : Int32) (v3 : Int32) (v4 : Int32) (v5 : Int32) (v6 : Int32) (M : Mem) : Option (Int32 × Mem) := match n with
  | 0 => none
  | n + 1 => if (M.1 19 0 3) ≤ v6 then lt_ (v5 + 1) (fun x2 => k13 v1 v2 v3 v4 x2 M) else (f_X7_copyFrom 1 0 M).bind (fun q3 => (f_X7_swapSeats 1 v5 v6 q3).bind (fun q4 => (f_X7_goOn 1 v1 q4).bind (fun q5 => (f_X7_richness 1 q5).bind (fun q6 => if q6 ≤ v3 then f_X2_richestChange_101 k13 (f_X2_richestChange_31 k13 n) v1 v2 v3 v4 v5 v6 q5 else lt_ (((10 : Int32) * v5) + v6) (fun x8 => f_X2_richestChange_101 k13 (f_X2_richestChange_31 k13 n) v1 v2 q6 x8 v5 v6 q5)))))
set_option maxHeartbeats 4000000 in
set_option maxRecDepth 100000 in
theorem k_X2_richestChange_31 {g : GT} {X : XT} {k13 : Int32 → Int32 → Int32 → Int32 → Int32 → Mem → Option (Int32 × Mem)} {t : Int32 × Mem} (C : Cx g X cX2_richestChange RX2 8 5) (hr : (xt X).sig.returnType = some .int) (hR : Rt g X (some (.int t.1)) t.2) (hk13 : ∀ (v1 : Int32) (v2 : Int32) (v3 : Int32) (v4 : Int32) (v5 : Int32) (M : Mem) (w6 w7 : Option Value), k13 v1 v2 v3 v4 v5 M = some t → Kj g X 8 13 [some (.ref (ga g 24 0)), some (.int v1), some (.int v2), some (.int v3), some (.int v4), some (.int v5), w6, w7] [] M) (n : Nat) : ∀ (v1 : Int32) (v2 : Int32) (v3 : Int32) (v4 : Int32) (v5 : Int32) (v6 : Int32) (M : Mem) (w7 : Option Value), f_X2_richestChange_31 k13 n v1 v2 v3 v4 v5 v6 M = some t → Kj g X 8 31 [some (.ref (ga g 24 0)), some (.int v1), some (.int v2), some (.int v3), some (.int v4), some (.int v5), some (.int v6), w7] [] M := by
  induction n with
  | zero => intro v1 v2 v3 v4 v5 v6 M w7 h; rw [f_X2_richestChange_31] at h; cases h
  | succ n ih =>
    intro v1 v2 v3 v4 v5 v6 M w7 h
    rw [f_X2_richestChange_31] at h
    refine kj_ild6 (pc := 31) C dX2_richestChange_31 ?_
    refine kj_ald0 (pc := 33) C dX2_richestChange_33 ?_
    refine gf_X2_15 (pc := 34) C dX2_richestChange_34 ?_
    refine gf_X2_50 (pc := 37) C dX2_richestChange_37 ?_
    refine kj_icmp_ge (pc := 40) C dX2_richestChange_40 (tgt := 107) (by decide) (fun c1 => ?_) (fun c1 => ?_)
    · have h := of_pos c1 h
      obtain ⟨x2, ex2, h⟩ := of_lt h
      refine kj_iinc5 (pc := 107) C (v := x2) dX2_richestChange_107 (Nat.le_of_ble_eq_true rfl) rfl (by rw [ex2, ci_1]) ?_
      refine kj_goto (pc := 110) C dX2_richestChange_110 (tgt := 13) (by decide) ?_
      exact hk13 _ _ _ _ _ _ _ _ h
    · have h := of_neg c1 h
      refine kj_ald0 (pc := 43) C dX2_richestChange_43 ?_
      refine gf_X2_23 (pc := 44) C dX2_richestChange_44 ?_
      refine kj_ald0 (pc := 47) C dX2_richestChange_47 ?_
      refine gf_X2_19 (pc := 48) C dX2_richestChange_48 ?_
      obtain ⟨q3, eq3, h⟩ := of_bind h
      refine kj_callVN0 (pc := 51) C (ct_X7_copyFrom h18_1 h18_0 eq3) (Nat.le_of_ble_eq_true rfl) mi_X7_copyFrom ml_X2_26 (rc_st h18_1) rfl rfl ar1 (Nat.le_of_ble_eq_true rfl) dX2_richestChange_51 ?_
      refine kj_ald0 (pc := 54) C dX2_richestChange_54 ?_
      refine gf_X2_23 (pc := 55) C dX2_richestChange_55 ?_
      refine kj_ild5 (pc := 58) C dX2_richestChange_58 ?_
      refine kj_ild6 (pc := 60) C dX2_richestChange_60 ?_
      obtain ⟨q4, eq4, h⟩ := of_bind h
      refine kj_callVN0 (pc := 62) C (ct_X7_swapSeats h18_1 eq4) (Nat.le_of_ble_eq_true rfl) mi_X7_swapSeats ml_X2_64 (rc_st h18_1) rfl rfl ar2 (Nat.le_of_ble_eq_true rfl) dX2_richestChange_62 ?_
      refine kj_ald0 (pc := 65) C dX2_richestChange_65 ?_
      refine gf_X2_23 (pc := 66) C dX2_richestChange_66 ?_
      refine kj_ild1 (pc := 69) C dX2_richestChange_69 ?_
      obtain ⟨q5, eq5, h⟩ := of_bind h
      refine kj_callVN0 (pc := 70) C (ct_X7_goOn h18_1 eq5) (Nat.le_of_ble_eq_true rfl) mi_X7_goOn ml_X2_32 (rc_st h18_1) rfl rfl ar1 (Nat.le_of_ble_eq_true rfl) dX2_richestChange_70 ?_
      refine kj_ald0 (pc := 73) C dX2_richestChange_73 ?_
      refine gf_X2_23 (pc := 74) C dX2_richestChange_74 ?_
      obtain ⟨q6, eq6, h⟩ := of_bind h
      refine kj_callVN1 (pc := 77) C (ct_X7_richness h18_1 eq6) (Nat.le_of_ble_eq_true rfl) mi_X7_richness ml_X2_39 (rc_st h18_1) rfl rfl ar0 (Nat.le_of_ble_eq_true rfl) dX2_richestChange_77 ?_
      refine kj_ist7 (pc := 80) C dX2_richestChange_80 (Nat.le_of_ble_eq_true rfl) rfl ?_
      refine kj_ild7 (pc := 82) C dX2_richestChange_82 ?_
      refine kj_ild3 (pc := 84) C dX2_richestChange_84 ?_
      refine kj_icmp_le (pc := 85) C dX2_richestChange_85 (tgt := 101) (by decide) (fun c7 => ?_) (fun c7 => ?_)
      · have h := of_pos c7 h
        exact k_X2_richestChange_101 C hr hR hk13 ih _ _ _ _ _ _ _ _ h
      · have h := of_neg c7 h
        refine kj_ild7 (pc := 88) C dX2_richestChange_88 ?_
        refine kj_ist3 (pc := 90) C dX2_richestChange_90 (Nat.le_of_ble_eq_true rfl) rfl ?_
        refine kj_bipush (pc := 91) C (v := 10) dX2_richestChange_91 cb_10 ?_
        refine kj_ild5 (pc := 93) C dX2_richestChange_93 ?_
        refine kj_imul (pc := 95) C dX2_richestChange_95 ?_
        refine kj_ild6 (pc := 96) C dX2_richestChange_96 ?_
        refine kj_iadd (pc := 98) C dX2_richestChange_98 ?_
        obtain ⟨x8, ex8, h⟩ := of_lt h
        refine kj_ni ex8 ?_
        refine kj_ist4 (pc := 99) C dX2_richestChange_99 (Nat.le_of_ble_eq_true rfl) rfl ?_
        exact k_X2_richestChange_101 C hr hR hk13 ih _ _ _ _ _ _ _ _ h
def f_X2_richestChange_13 (n : Nat) (v1 : Int32) (v2 : Int32) (v3 : Int32) (v4 : Int32) (v5 : Int32) (M : Mem) : Option (Int32 × Mem) := match n with
  | 0 => none
  | n + 1 => if (M.1 19 0 3) ≤ v5 then if v2 = 0 then f_X2_richestChange_123 v3 M else f_X2_richestChange_123 v4 M else lt_ (v5 + (1 : Int32)) (fun x3 => f_X2_richestChange_31 (f_X2_richestChange_13 n) 100 v1 v2 v3 v4 v5 x3 M)
set_option maxHeartbeats 4000000 in
set_option maxRecDepth 100000 in
theorem k_X2_richestChange_13 {g : GT} {X : XT} {t : Int32 × Mem} (C : Cx g X cX2_richestChange RX2 8 5) (hr : (xt X).sig.returnType = some .int) (hR : Rt g X (some (.int t.1)) t.2) (n : Nat) : ∀ (v1 : Int32) (v2 : Int32) (v3 : Int32) (v4 : Int32) (v5 : Int32) (M : Mem) (w6 w7 : Option Value), f_X2_richestChange_13 n v1 v2 v3 v4 v5 M = some t → Kj g X 8 13 [some (.ref (ga g 24 0)), some (.int v1), some (.int v2), some (.int v3), some (.int v4), some (.int v5), w6, w7] [] M := by
  induction n with
  | zero => intro v1 v2 v3 v4 v5 M w6 w7 h; rw [f_X2_richestChange_13] at h; cases h
  | succ n ih =>
    intro v1 v2 v3 v4 v5 M w6 w7 h
    rw [f_X2_richestChange_13] at h
    refine kj_ild5 (pc := 13) C dX2_richestChange_13 ?_
    refine kj_ald0 (pc := 15) C dX2_richestChange_15 ?_
    refine gf_X2_15 (pc := 16) C dX2_richestChange_16 ?_
    refine gf_X2_50 (pc := 19) C dX2_richestChange_19 ?_
    refine kj_icmp_ge (pc := 22) C dX2_richestChange_22 (tgt := 113) (by decide) (fun c1 => ?_) (fun c1 => ?_)
    · have h := of_pos c1 h
      refine kj_ild2 (pc := 113) C dX2_richestChange_113 ?_
      refine kj_if_eq (pc := 114) C dX2_richestChange_114 (tgt := 122) (by decide) (fun c2 => ?_) (fun c2 => ?_)
      · have h := of_pos c2 h
        refine kj_ild3 (pc := 122) C dX2_richestChange_122 ?_
        exact k_X2_richestChange_123 C hr hR _ _ _ _ _ _ _ _ _ _ h
      · have h := of_neg c2 h
        refine kj_ild4 (pc := 117) C dX2_richestChange_117 ?_
        refine kj_goto (pc := 119) C dX2_richestChange_119 (tgt := 123) (by decide) ?_
        exact k_X2_richestChange_123 C hr hR _ _ _ _ _ _ _ _ _ _ h
    · have h := of_neg c1 h
      refine kj_ild5 (pc := 25) C dX2_richestChange_25 ?_
      refine kj_iconst (pc := 27) C (v := 1) dX2_richestChange_27 ci_1 ?_
      refine kj_iadd (pc := 28) C dX2_richestChange_28 ?_
      obtain ⟨x3, ex3, h⟩ := of_lt h
      refine kj_ni ex3 ?_
      refine kj_ist6 (pc := 29) C dX2_richestChange_29 (Nat.le_of_ble_eq_true rfl) rfl ?_
      exact k_X2_richestChange_31 C hr hR ih 100 _ _ _ _ _ _ _ _ h
def f_X2_richestChange (v1 : Int32) (v2 : Int32) (M : Mem) : Option (Int32 × Mem) := (f_X2_richnessBehind v1 M).bind (fun q1 => f_X2_richestChange_13 100 v1 v2 q1.1 99 0 q1.2)
set_option maxHeartbeats 4000000 in
set_option maxRecDepth 100000 in
theorem ct_X2_richestChange {g : GT} {l : Launch} {v1 : Int32} {v2 : Int32} {M : Mem} {t : Int32 × Mem} (h : f_X2_richestChange v1 v2 M = some t) : Ct g l 5 yX2_richestChange cX2_richestChange 8 (some .int) [.ref (ga g 24 0), .int v1, .int v2] M (some (.int t.1)) t.2 := by
  refine ct_of (k := 5) (by decide) (Nat.le_of_ble_eq_true rfl) rfl (fun X C hl hr hR => ?_)
  subst hl
  have C : Cx g X cX2_richestChange RX2 8 5 := C
  unfold f_X2_richestChange at h
  refine kj_ald0 (pc := 0) C dX2_richestChange_0 ?_
  refine kj_ild1 (pc := 1) C dX2_richestChange_1 ?_
  obtain ⟨q1, eq1, h⟩ := of_bind h
  refine kj_callV1 (pc := 2) C (ct_X2_richnessBehind eq1) (Nat.le_of_ble_eq_true rfl) mi_X2_richnessBehind ml_X2_60 rc_24 rfl rfl ar1 (Nat.le_of_ble_eq_true rfl) dX2_richestChange_2 ?_
  refine kj_ist3 (pc := 5) C dX2_richestChange_5 (Nat.le_of_ble_eq_true rfl) rfl ?_
  refine kj_bipush (pc := 6) C (v := 99) dX2_richestChange_6 cb_99 ?_
  refine kj_ist4 (pc := 8) C dX2_richestChange_8 (Nat.le_of_ble_eq_true rfl) rfl ?_
  refine kj_iconst (pc := 10) C (v := 0) dX2_richestChange_10 ci_0 ?_
  refine kj_ist5 (pc := 11) C dX2_richestChange_11 (Nat.le_of_ble_eq_true rfl) rfl ?_
  exact k_X2_richestChange_13 C hr hR 100 _ _ _ _ _ _ _ _ h
def f_X2_canBe_166 (M : Mem) (s0 : Int32) : Option (Int32) := if s0 = 0 ∨ s0 = 1 then some s0 else none
set_option maxHeartbeats 4000000 in
set_option maxRecDepth 100000 in
theorem k_X2_canBe_166 {g : GT} {X : XT} {M : Mem} {t : Int32} (C : Cx g X cX2_canBe RX2 4 2) (hr : (xt X).sig.returnType = some .boolean) (hR : Rt g X (some (.int t)) M) : ∀ (s0 : Int32) (w0 w1 w2 w3 : Option Value), f_X2_canBe_166 M s0 = some t → Kj g X 4 166 [w0, w1, w2, w3] [.int s0] M := by
  intro s0 w0 w1 w2 w3 h
  unfold f_X2_canBe_166 at h
  obtain ⟨c1, h⟩ := of_gd h
  cases h
  exact kj_zret (pc := 166) C hr c1 hR dX2_canBe_166
def f_X2_canBe_165 (M : Mem) : Option (Int32) := f_X2_canBe_166 M 0
set_option maxHeartbeats 4000000 in
set_option maxRecDepth 100000 in
theorem k_X2_canBe_165 {g : GT} {X : XT} {M : Mem} {t : Int32} (C : Cx g X cX2_canBe RX2 4 2) (hr : (xt X).sig.returnType = some .boolean) (hR : Rt g X (some (.int t)) M) : ∀ (w0 w1 w2 w3 : Option Value), f_X2_canBe_165 M = some t → Kj g X 4 165 [w0, w1, w2, w3] [] M := by
  intro w0 w1 w2 w3 h
  unfold f_X2_canBe_165 at h
  refine kj_iconst (pc := 165) C (v := 0) dX2_canBe_165 ci_0 ?_
  exact k_X2_canBe_166 C hr hR _ _ _ _ _ h
def f_X2_canBe_137 (M : Mem) (s0 : Int32) : Option (Int32) := if s0 = 0 ∨ s0 = 1 then some s0 else none
set_option maxHeartbeats 4000000 in
set_option maxRecDepth 100000 in
theorem k_X2_canBe_137 {g : GT} {X : XT} {M : Mem} {t : Int32} (C : Cx g X cX2_canBe RX2 4 2) (hr : (xt X).sig.returnType = some .boolean) (hR : Rt g X (some (.int t)) M) : ∀ (s0 : Int32) (w0 w1 w2 w3 : Option Value), f_X2_canBe_137 M s0 = some t → Kj g X 4 137 [w0, w1, w2, w3] [.int s0] M := by
  intro s0 w0 w1 w2 w3 h
  unfold f_X2_canBe_137 at h
  obtain ⟨c1, h⟩ := of_gd h
  cases h
  exact kj_zret (pc := 137) C hr c1 hR dX2_canBe_137
def f_X2_canBe_136 (M : Mem) : Option (Int32) := f_X2_canBe_137 M 0
set_option maxHeartbeats 4000000 in
set_option maxRecDepth 100000 in
theorem k_X2_canBe_136 {g : GT} {X : XT} {M : Mem} {t : Int32} (C : Cx g X cX2_canBe RX2 4 2) (hr : (xt X).sig.returnType = some .boolean) (hR : Rt g X (some (.int t)) M) : ∀ (w0 w1 w2 w3 : Option Value), f_X2_canBe_136 M = some t → Kj g X 4 136 [w0, w1, w2, w3] [] M := by
  intro w0 w1 w2 w3 h
  unfold f_X2_canBe_136 at h
  refine kj_iconst (pc := 136) C (v := 0) dX2_canBe_136 ci_0 ?_
  exact k_X2_canBe_137 C hr hR _ _ _ _ _ h
def f_X2_canBe_107 (M : Mem) (s0 : Int32) : Option (Int32) := if s0 = 0 ∨ s0 = 1 then some s0 else none
set_option maxHeartbeats 4000000 in
set_option maxRecDepth 100000 in
theorem k_X2_canBe_107 {g : GT} {X : XT} {M : Mem} {t : Int32} (C : Cx g X cX2_canBe RX2 4 2) (hr : (xt X).sig.returnType = some .boolean) (hR : Rt g X (some (.int t)) M) : ∀ (s0 : Int32) (w0 w1 w2 w3 : Option Value), f_X2_canBe_107 M s0 = some t → Kj g X 4 107 [w0, w1, w2, w3] [.int s0] M := by
  intro s0 w0 w1 w2 w3 h
  unfold f_X2_canBe_107 at h
  obtain ⟨c1, h⟩ := of_gd h
  cases h
  exact kj_zret (pc := 107) C hr c1 hR dX2_canBe_107
def f_X2_canBe_106 (M : Mem) : Option (Int32) := f_X2_canBe_107 M 0
set_option maxHeartbeats 4000000 in
set_option maxRecDepth 100000 in
theorem k_X2_canBe_106 {g : GT} {X : XT} {M : Mem} {t : Int32} (C : Cx g X cX2_canBe RX2 4 2) (hr : (xt X).sig.returnType = some .boolean) (hR : Rt g X (some (.int t)) M) : ∀ (w0 w1 w2 w3 : Option Value), f_X2_canBe_106 M = some t → Kj g X 4 106 [w0, w1, w2, w3] [] M := by
  intro w0 w1 w2 w3 h
  unfold f_X2_canBe_106 at h
  refine kj_iconst (pc := 106) C (v := 0) dX2_canBe_106 ci_0 ?_
  exact k_X2_canBe_107 C hr hR _ _ _ _ _ h
def f_X2_canBe_74 (M : Mem) (s0 : Int32) : Option (Int32) := if s0 = 0 ∨ s0 = 1 then some s0 else none
set_option maxHeartbeats 4000000 in
set_option maxRecDepth 100000 in
theorem k_X2_canBe_74 {g : GT} {X : XT} {M : Mem} {t : Int32} (C : Cx g X cX2_canBe RX2 4 2) (hr : (xt X).sig.returnType = some .boolean) (hR : Rt g X (some (.int t)) M) : ∀ (s0 : Int32) (w0 w1 w2 w3 : Option Value), f_X2_canBe_74 M s0 = some t → Kj g X 4 74 [w0, w1, w2, w3] [.int s0] M := by
  intro s0 w0 w1 w2 w3 h
  unfold f_X2_canBe_74 at h
  obtain ⟨c1, h⟩ := of_gd h
  cases h
  exact kj_zret (pc := 74) C hr c1 hR dX2_canBe_74
def f_X2_canBe_73 (M : Mem) : Option (Int32) := f_X2_canBe_74 M 0
set_option maxHeartbeats 4000000 in
set_option maxRecDepth 100000 in
theorem k_X2_canBe_73 {g : GT} {X : XT} {M : Mem} {t : Int32} (C : Cx g X cX2_canBe RX2 4 2) (hr : (xt X).sig.returnType = some .boolean) (hR : Rt g X (some (.int t)) M) : ∀ (w0 w1 w2 w3 : Option Value), f_X2_canBe_73 M = some t → Kj g X 4 73 [w0, w1, w2, w3] [] M := by
  intro w0 w1 w2 w3 h
  unfold f_X2_canBe_73 at h
  refine kj_iconst (pc := 73) C (v := 0) dX2_canBe_73 ci_0 ?_
  exact k_X2_canBe_74 C hr hR _ _ _ _ _ h
def f_X2_canBe_53 (M : Mem) (s0 : Int32) : Option (Int32) := if s0 = 0 ∨ s0 = 1 then some s0 else none
set_option maxHeartbeats 4000000 in
set_option maxRecDepth 100000 in
theorem k_X2_canBe_53 {g : GT} {X : XT} {M : Mem} {t : Int32} (C : Cx g X cX2_canBe RX2 4 2) (hr : (xt X).sig.returnType = some .boolean) (hR : Rt g X (some (.int t)) M) : ∀ (s0 : Int32) (w0 w1 w2 w3 : Option Value), f_X2_canBe_53 M s0 = some t → Kj g X 4 53 [w0, w1, w2, w3] [.int s0] M := by
  intro s0 w0 w1 w2 w3 h
  unfold f_X2_canBe_53 at h
  obtain ⟨c1, h⟩ := of_gd h
  cases h
  exact kj_zret (pc := 53) C hr c1 hR dX2_canBe_53
def f_X2_canBe_52 (M : Mem) : Option (Int32) := f_X2_canBe_53 M 0
set_option maxHeartbeats 4000000 in
set_option maxRecDepth 100000 in
theorem k_X2_canBe_52 {g : GT} {X : XT} {M : Mem} {t : Int32} (C : Cx g X cX2_canBe RX2 4 2) (hr : (xt X).sig.returnType = some .boolean) (hR : Rt g X (some (.int t)) M) : ∀ (w0 w1 w2 w3 : Option Value), f_X2_canBe_52 M = some t → Kj g X 4 52 [w0, w1, w2, w3] [] M := by
  intro w0 w1 w2 w3 h
  unfold f_X2_canBe_52 at h
  refine kj_iconst (pc := 52) C (v := 0) dX2_canBe_52 ci_0 ?_
  exact k_X2_canBe_53 C hr hR _ _ _ _ _ h
def f_X2_canBe (v1 : Int32) (v2 : Int32) (v3 : Int32) (M : Mem) : Option (Int32) := if v1 = 0 then if v2 = 0 then if v3 = 0 then f_X2_canBe_53 M 1 else f_X2_canBe_52 M else f_X2_canBe_52 M else if v1 = 1 then (f_X7_isThere 1 v2 M).bind (fun q4 => if q4 = 0 then f_X2_canBe_73 M else if v3 ≤ 0 then f_X2_canBe_73 M else f_X2_canBe_74 M 1) else if v1 = 2 then (f_X7_isThere 1 v2 M).bind (fun q8 => if q8 = 0 then f_X2_canBe_106 M else (f_X7_isThere 1 v3 M).bind (fun q10 => if q10 = 0 then f_X2_canBe_106 M else if v2 = v3 then f_X2_canBe_106 M else f_X2_canBe_107 M 1)) else if v1 = 3 then if v2 = 0 then if v3 = 0 then f_X2_canBe_53 M 1 else f_X2_canBe_52 M else f_X2_canBe_52 M else if v1 = 4 then (f_X7_isThere 1 v2 M).bind (fun q17 => if q17 = 0 then f_X2_canBe_136 M else if ¬ (v2 < 0 ∨ 6 ≤ v2.toNatClampNeg) then if (M.1 1 3 v2.toNatClampNeg) = v3 then f_X2_canBe_137 M 1 else f_X2_canBe_136 M else none) else if v1 = 5 then (f_X7_isThere 1 v2 M).bind (fun q22 => if q22 = 0 then f_X2_canBe_165 M else (f_X7_enviedBy 1 v2 M).bind (fun q24 => if q24 = v3 then f_X2_canBe_166 M 1 else f_X2_canBe_165 M)) else some (0 : Int32)
set_option maxHeartbeats 4000000 in
set_option maxRecDepth 100000 in
theorem ct_X2_canBe {g : GT} {l : Launch} {v1 : Int32} {v2 : Int32} {v3 : Int32} {M : Mem} {t : Int32} (h : f_X2_canBe v1 v2 v3 M = some t) : Ct g l 2 yX2_canBe cX2_canBe 4 (some .boolean) [.ref (ga g 24 0), .int v1, .int v2, .int v3] M (some (.int t)) M := by
  refine ct_of (k := 0) (by decide) (Nat.le_of_ble_eq_true rfl) rfl (fun X C hl hr hR => ?_)
  subst hl
  have C : Cx g X cX2_canBe RX2 4 2 := C
  unfold f_X2_canBe at h
  refine kj_ild1 (pc := 0) C dX2_canBe_0 ?_
  rcases Classical.em (v1 = 0) with c3 | c3
  · have h := of_pos c3 h
    refine kj_tsIn (pc := 1) C (off := 39) (tgt := 40) dX2_canBe_1 (by rw [c3]; decide) (by rw [c3]; decide) (by rw [c3]; decide) (by decide) ?_
    refine kj_ild2 (pc := 40) C dX2_canBe_40 ?_
    refine kj_if_ne (pc := 41) C dX2_canBe_41 (tgt := 52) (by decide) (fun c1 => ?_) (fun c1 => ?_)
    · have h := of_neg c1 h
      exact k_X2_canBe_52 C hr hR  _ _ _ _ h
    · have h := of_pos c1 h
      refine kj_ild3 (pc := 44) C dX2_canBe_44 ?_
      refine kj_if_ne (pc := 45) C dX2_canBe_45 (tgt := 52) (by decide) (fun c2 => ?_) (fun c2 => ?_)
      · have h := of_neg c2 h
        exact k_X2_canBe_52 C hr hR  _ _ _ _ h
      · have h := of_pos c2 h
        refine kj_iconst (pc := 48) C (v := 1) dX2_canBe_48 ci_1 ?_
        refine kj_goto (pc := 49) C dX2_canBe_49 (tgt := 53) (by decide) ?_
        exact k_X2_canBe_53 C hr hR _ _ _ _ _ h
  · have h := of_neg c3 h
    rcases Classical.em (v1 = 1) with c7 | c7
    · have h := of_pos c7 h
      refine kj_tsIn (pc := 1) C (off := 53) (tgt := 54) dX2_canBe_1 (by rw [c7]; decide) (by rw [c7]; decide) (by rw [c7]; decide) (by decide) ?_
      refine kj_ald0 (pc := 54) C dX2_canBe_54 ?_
      refine gf_X2_23 (pc := 55) C dX2_canBe_55 ?_
      refine kj_ild2 (pc := 58) C dX2_canBe_58 ?_
      obtain ⟨q4, eq4, h⟩ := of_bind h
      refine kj_callVN1 (pc := 59) C (ct_X7_isThere h18_1 eq4) (Nat.le_of_ble_eq_true rfl) mi_X7_isThere ml_X2_81 (rc_st h18_1) rfl rfl ar1 (Nat.le_of_ble_eq_true rfl) dX2_canBe_59 ?_
      refine kj_if_eq (pc := 62) C dX2_canBe_62 (tgt := 73) (by decide) (fun c5 => ?_) (fun c5 => ?_)
      · have h := of_pos c5 h
        exact k_X2_canBe_73 C hr hR  _ _ _ _ h
      · have h := of_neg c5 h
        refine kj_ild3 (pc := 65) C dX2_canBe_65 ?_
        refine kj_if_le (pc := 66) C dX2_canBe_66 (tgt := 73) (by decide) (fun c6 => ?_) (fun c6 => ?_)
        · have h := of_pos c6 h
          exact k_X2_canBe_73 C hr hR  _ _ _ _ h
        · have h := of_neg c6 h
          refine kj_iconst (pc := 69) C (v := 1) dX2_canBe_69 ci_1 ?_
          refine kj_goto (pc := 70) C dX2_canBe_70 (tgt := 74) (by decide) ?_
          exact k_X2_canBe_74 C hr hR _ _ _ _ _ h
    · have h := of_neg c7 h
      rcases Classical.em (v1 = 2) with c13 | c13
      · have h := of_pos c13 h
        refine kj_tsIn (pc := 1) C (off := 74) (tgt := 75) dX2_canBe_1 (by rw [c13]; decide) (by rw [c13]; decide) (by rw [c13]; decide) (by decide) ?_
        refine kj_ald0 (pc := 75) C dX2_canBe_75 ?_
        refine gf_X2_23 (pc := 76) C dX2_canBe_76 ?_
        refine kj_ild2 (pc := 79) C dX2_canBe_79 ?_
        obtain ⟨q8, eq8, h⟩ := of_bind h
        refine kj_callVN1 (pc := 80) C (ct_X7_isThere h18_1 eq8) (Nat.le_of_ble_eq_true rfl) mi_X7_isThere ml_X2_81 (rc_st h18_1) rfl rfl ar1 (Nat.le_of_ble_eq_true rfl) dX2_canBe_80 ?_
        refine kj_if_eq (pc := 83) C dX2_canBe_83 (tgt := 106) (by decide) (fun c9 => ?_) (fun c9 => ?_)
        · have h := of_pos c9 h
          exact k_X2_canBe_106 C hr hR  _ _ _ _ h
        · have h := of_neg c9 h
          refine kj_ald0 (pc := 86) C dX2_canBe_86 ?_
          refine gf_X2_23 (pc := 87) C dX2_canBe_87 ?_
          refine kj_ild3 (pc := 90) C dX2_canBe_90 ?_
          obtain ⟨q10, eq10, h⟩ := of_bind h
          refine kj_callVN1 (pc := 91) C (ct_X7_isThere h18_1 eq10) (Nat.le_of_ble_eq_true rfl) mi_X7_isThere ml_X2_81 (rc_st h18_1) rfl rfl ar1 (Nat.le_of_ble_eq_true rfl) dX2_canBe_91 ?_
          refine kj_if_eq (pc := 94) C dX2_canBe_94 (tgt := 106) (by decide) (fun c11 => ?_) (fun c11 => ?_)
          · have h := of_pos c11 h
            exact k_X2_canBe_106 C hr hR  _ _ _ _ h
          · have h := of_neg c11 h
            refine kj_ild2 (pc := 97) C dX2_canBe_97 ?_
            refine kj_ild3 (pc := 98) C dX2_canBe_98 ?_
            refine kj_icmp_eq (pc := 99) C dX2_canBe_99 (tgt := 106) (by decide) (fun c12 => ?_) (fun c12 => ?_)
            · have h := of_pos c12 h
              exact k_X2_canBe_106 C hr hR  _ _ _ _ h
            · have h := of_neg c12 h
              refine kj_iconst (pc := 102) C (v := 1) dX2_canBe_102 ci_1 ?_
              refine kj_goto (pc := 103) C dX2_canBe_103 (tgt := 107) (by decide) ?_
              exact k_X2_canBe_107 C hr hR _ _ _ _ _ h
      · have h := of_neg c13 h
        rcases Classical.em (v1 = 3) with c16 | c16
        · have h := of_pos c16 h
          refine kj_tsIn (pc := 1) C (off := 39) (tgt := 40) dX2_canBe_1 (by rw [c16]; decide) (by rw [c16]; decide) (by rw [c16]; decide) (by decide) ?_
          refine kj_ild2 (pc := 40) C dX2_canBe_40 ?_
          refine kj_if_ne (pc := 41) C dX2_canBe_41 (tgt := 52) (by decide) (fun c14 => ?_) (fun c14 => ?_)
          · have h := of_neg c14 h
            exact k_X2_canBe_52 C hr hR  _ _ _ _ h
          · have h := of_pos c14 h
            refine kj_ild3 (pc := 44) C dX2_canBe_44 ?_
            refine kj_if_ne (pc := 45) C dX2_canBe_45 (tgt := 52) (by decide) (fun c15 => ?_) (fun c15 => ?_)
            · have h := of_neg c15 h
              exact k_X2_canBe_52 C hr hR  _ _ _ _ h
            · have h := of_pos c15 h
              refine kj_iconst (pc := 48) C (v := 1) dX2_canBe_48 ci_1 ?_
              refine kj_goto (pc := 49) C dX2_canBe_49 (tgt := 53) (by decide) ?_
              exact k_X2_canBe_53 C hr hR _ _ _ _ _ h
        · have h := of_neg c16 h
          rcases Classical.em (v1 = 4) with c21 | c21
          · have h := of_pos c21 h
            refine kj_tsIn (pc := 1) C (off := 107) (tgt := 108) dX2_canBe_1 (by rw [c21]; decide) (by rw [c21]; decide) (by rw [c21]; decide) (by decide) ?_
            refine kj_ald0 (pc := 108) C dX2_canBe_108 ?_
            refine gf_X2_23 (pc := 109) C dX2_canBe_109 ?_
            refine kj_ild2 (pc := 112) C dX2_canBe_112 ?_
            obtain ⟨q17, eq17, h⟩ := of_bind h
            refine kj_callVN1 (pc := 113) C (ct_X7_isThere h18_1 eq17) (Nat.le_of_ble_eq_true rfl) mi_X7_isThere ml_X2_81 (rc_st h18_1) rfl rfl ar1 (Nat.le_of_ble_eq_true rfl) dX2_canBe_113 ?_
            refine kj_if_eq (pc := 116) C dX2_canBe_116 (tgt := 136) (by decide) (fun c18 => ?_) (fun c18 => ?_)
            · have h := of_pos c18 h
              exact k_X2_canBe_136 C hr hR  _ _ _ _ h
            · have h := of_neg c18 h
              refine kj_ald0 (pc := 119) C dX2_canBe_119 ?_
              refine gf_X2_23 (pc := 120) C dX2_canBe_120 ?_
              refine gf_X2_36 (pc := 123) C h18_1 dX2_canBe_123 ?_
              refine kj_ild2 (pc := 126) C dX2_canBe_126 ?_
              obtain ⟨c19, h⟩ := of_gd h
              refine kj_iald2 (pc := 127) C (ia_st h18_1 ⟨by decide, by decide⟩) c19 dX2_canBe_127 ?_
              refine kj_ild3 (pc := 128) C dX2_canBe_128 ?_
              refine kj_icmp_ne (pc := 129) C dX2_canBe_129 (tgt := 136) (by decide) (fun c20 => ?_) (fun c20 => ?_)
              · have h := of_neg c20 h
                exact k_X2_canBe_136 C hr hR  _ _ _ _ h
              · have h := of_pos c20 h
                refine kj_iconst (pc := 132) C (v := 1) dX2_canBe_132 ci_1 ?_
                refine kj_goto (pc := 133) C dX2_canBe_133 (tgt := 137) (by decide) ?_
                exact k_X2_canBe_137 C hr hR _ _ _ _ _ h
          · have h := of_neg c21 h
            rcases Classical.em (v1 = 5) with c26 | c26
            · have h := of_pos c26 h
              refine kj_tsIn (pc := 1) C (off := 137) (tgt := 138) dX2_canBe_1 (by rw [c26]; decide) (by rw [c26]; decide) (by rw [c26]; decide) (by decide) ?_
              refine kj_ald0 (pc := 138) C dX2_canBe_138 ?_
              refine gf_X2_23 (pc := 139) C dX2_canBe_139 ?_
              refine kj_ild2 (pc := 142) C dX2_canBe_142 ?_
              obtain ⟨q22, eq22, h⟩ := of_bind h
              refine kj_callVN1 (pc := 143) C (ct_X7_isThere h18_1 eq22) (Nat.le_of_ble_eq_true rfl) mi_X7_isThere ml_X2_81 (rc_st h18_1) rfl rfl ar1 (Nat.le_of_ble_eq_true rfl) dX2_canBe_143 ?_
              refine kj_if_eq (pc := 146) C dX2_canBe_146 (tgt := 165) (by decide) (fun c23 => ?_) (fun c23 => ?_)
              · have h := of_pos c23 h
                exact k_X2_canBe_165 C hr hR  _ _ _ _ h
              · have h := of_neg c23 h
                refine kj_ald0 (pc := 149) C dX2_canBe_149 ?_
                refine gf_X2_23 (pc := 150) C dX2_canBe_150 ?_
                refine kj_ild2 (pc := 153) C dX2_canBe_153 ?_
                obtain ⟨q24, eq24, h⟩ := of_bind h
                refine kj_callVN1 (pc := 154) C (ct_X7_enviedBy h18_1 eq24) (Nat.le_of_ble_eq_true rfl) mi_X7_enviedBy ml_X2_85 (rc_st h18_1) rfl rfl ar1 (Nat.le_of_ble_eq_true rfl) dX2_canBe_154 ?_
                refine kj_ild3 (pc := 157) C dX2_canBe_157 ?_
                refine kj_icmp_ne (pc := 158) C dX2_canBe_158 (tgt := 165) (by decide) (fun c25 => ?_) (fun c25 => ?_)
                · have h := of_neg c25 h
                  exact k_X2_canBe_165 C hr hR  _ _ _ _ h
                · have h := of_pos c25 h
                  refine kj_iconst (pc := 161) C (v := 1) dX2_canBe_161 ci_1 ?_
                  refine kj_goto (pc := 162) C dX2_canBe_162 (tgt := 166) (by decide) ?_
                  exact k_X2_canBe_166 C hr hR _ _ _ _ _ h
            · have h := of_neg c26 h
              refine kj_tsOut (pc := 1) C (tgt := 167) dX2_canBe_1 (ts_out5 c3 c7 c13 c16 c21 c26) (by decide) ?_
              refine kj_iconst (pc := 167) C (v := 0) dX2_canBe_167 ci_0 ?_
              cases h
              exact kj_zret (pc := 168) C hr (by decide) hR dX2_canBe_168
def f_X7_takeVoices (o : Nat) (M : Mem) : Option (Mem) := lt_ (sr M o 3 (va_cpy (M.1 19 1) (M.1 o 3) 0 0 6)) (fun M1 => some M1)
set_option maxHeartbeats 4000000 in
set_option maxRecDepth 100000 in
theorem ct_X7_takeVoices {g : GT} {l : Launch} {o : Nat} {M : Mem} {t : Mem} (ho : o < 18) (h : f_X7_takeVoices o M = some t) : Ct g l 2 yX7_takeVoices cX7_takeVoices 1 (none) [.ref (ga g o 0)] M (none) t := by
  refine ct_of (k := 0) (by decide) (Nat.le_of_ble_eq_true rfl) rfl (fun X C hl hr hR => ?_)
  subst hl
  have C : Cx g X cX7_takeVoices RX7 1 2 := C
  unfold f_X7_takeVoices at h
  refine kj_ald0 (pc := 0) C dX7_takeVoices_0 ?_
  refine gf_X7_34 (pc := 1) C ho dX7_takeVoices_1 ?_
  refine gf_X7_61 (pc := 4) C dX7_takeVoices_4 ?_
  refine kj_iconst (pc := 7) C (v := 0) dX7_takeVoices_7 ci_0 ?_
  refine kj_ald0 (pc := 8) C dX7_takeVoices_8 ?_
  refine gf_X7_18 (pc := 9) C ho dX7_takeVoices_9 ?_
  refine kj_iconst (pc := 12) C (v := 0) dX7_takeVoices_12 ci_0 ?_
  refine kj_bipush (pc := 13) C (v := 6) dX7_takeVoices_13 cb_6 ?_
  obtain ⟨M1, eM1, h⟩ := of_lt h
  refine kj_copy2 (pc := 15) C ml_X7_38 ia_19_1 (ia_st ho ⟨by decide, by decide⟩) (Nat.le_of_ble_eq_true rfl) dX7_takeVoices_15 ?_
  refine kj_nM eM1 ?_
  cases h
  exact kj_vret (pc := 18) C hr hR dX7_takeVoices_18
def f_X2_happen_77 (M : Mem) : Option (Mem) := some M
set_option maxHeartbeats 4000000 in
set_option maxRecDepth 100000 in
theorem k_X2_happen_77 {g : GT} {X : XT} {t : Mem} (C : Cx g X cX2_happen RX2 4 4) (hr : (xt X).sig.returnType = none) (hR : Rt g X none t) : ∀ (M : Mem) (w0 w1 w2 w3 : Option Value), f_X2_happen_77 M = some t → Kj g X 4 77 [w0, w1, w2, w3] [] M := by
  intro M w0 w1 w2 w3 h
  unfold f_X2_happen_77 at h
  cases h
  exact kj_vret (pc := 77) C hr hR dX2_happen_77
def f_X2_happen (v1 : Int32) (v2 : Int32) (v3 : Int32) (M : Mem) : Option (Mem) := if v1 = 0 then (f_X7_goOn 1 1 M).bind (fun q1 => f_X2_happen_77 q1) else if v1 = 1 then (f_X7_give 1 v2 v3 M).bind (fun q3 => f_X2_happen_77 q3) else if v1 = 2 then (f_X7_swapSeats 1 v2 v3 M).bind (fun q5 => f_X2_happen_77 q5) else if v1 = 3 then (f_X7_takeVoices 1 M).bind (fun q7 => f_X2_happen_77 q7) else f_X2_happen_77 M
set_option maxHeartbeats 4000000 in
set_option maxRecDepth 100000 in
theorem ct_X2_happen {g : GT} {l : Launch} {v1 : Int32} {v2 : Int32} {v3 : Int32} {M : Mem} {t : Mem} (h : f_X2_happen v1 v2 v3 M = some t) : Ct g l 4 yX2_happen cX2_happen 4 (none) [.ref (ga g 24 0), .int v1, .int v2, .int v3] M (none) t := by
  refine ct_of (k := 0) (by decide) (Nat.le_of_ble_eq_true rfl) rfl (fun X C hl hr hR => ?_)
  subst hl
  have C : Cx g X cX2_happen RX2 4 4 := C
  unfold f_X2_happen at h
  refine kj_ild1 (pc := 0) C dX2_happen_0 ?_
  rcases Classical.em (v1 = 0) with c2 | c2
  · have h := of_pos c2 h
    refine kj_tsIn (pc := 1) C (off := 31) (tgt := 32) dX2_happen_1 (by rw [c2]; decide) (by rw [c2]; decide) (by rw [c2]; decide) (by decide) ?_
    refine kj_ald0 (pc := 32) C dX2_happen_32 ?_
    refine gf_X2_23 (pc := 33) C dX2_happen_33 ?_
    refine kj_iconst (pc := 36) C (v := 1) dX2_happen_36 ci_1 ?_
    obtain ⟨q1, eq1, h⟩ := of_bind h
    refine kj_callVN0 (pc := 37) C (ct_X7_goOn h18_1 eq1) (Nat.le_of_ble_eq_true rfl) mi_X7_goOn ml_X2_32 (rc_st h18_1) rfl rfl ar1 (Nat.le_of_ble_eq_true rfl) dX2_happen_37 ?_
    refine kj_goto (pc := 40) C dX2_happen_40 (tgt := 77) (by decide) ?_
    exact k_X2_happen_77 C hr hR  _ _ _ _ _ h
  · have h := of_neg c2 h
    rcases Classical.em (v1 = 1) with c4 | c4
    · have h := of_pos c4 h
      refine kj_tsIn (pc := 1) C (off := 42) (tgt := 43) dX2_happen_1 (by rw [c4]; decide) (by rw [c4]; decide) (by rw [c4]; decide) (by decide) ?_
      refine kj_ald0 (pc := 43) C dX2_happen_43 ?_
      refine gf_X2_23 (pc := 44) C dX2_happen_44 ?_
      refine kj_ild2 (pc := 47) C dX2_happen_47 ?_
      refine kj_ild3 (pc := 48) C dX2_happen_48 ?_
      obtain ⟨q3, eq3, h⟩ := of_bind h
      refine kj_callVN0 (pc := 49) C (ct_X7_give h18_1 eq3) (Nat.le_of_ble_eq_true rfl) mi_X7_give ml_X2_56 (rc_st h18_1) rfl rfl ar2 (Nat.le_of_ble_eq_true rfl) dX2_happen_49 ?_
      refine kj_goto (pc := 52) C dX2_happen_52 (tgt := 77) (by decide) ?_
      exact k_X2_happen_77 C hr hR  _ _ _ _ _ h
    · have h := of_neg c4 h
      rcases Classical.em (v1 = 2) with c6 | c6
      · have h := of_pos c6 h
        refine kj_tsIn (pc := 1) C (off := 54) (tgt := 55) dX2_happen_1 (by rw [c6]; decide) (by rw [c6]; decide) (by rw [c6]; decide) (by decide) ?_
        refine kj_ald0 (pc := 55) C dX2_happen_55 ?_
        refine gf_X2_23 (pc := 56) C dX2_happen_56 ?_
        refine kj_ild2 (pc := 59) C dX2_happen_59 ?_
        refine kj_ild3 (pc := 60) C dX2_happen_60 ?_
        obtain ⟨q5, eq5, h⟩ := of_bind h
        refine kj_callVN0 (pc := 61) C (ct_X7_swapSeats h18_1 eq5) (Nat.le_of_ble_eq_true rfl) mi_X7_swapSeats ml_X2_64 (rc_st h18_1) rfl rfl ar2 (Nat.le_of_ble_eq_true rfl) dX2_happen_61 ?_
        refine kj_goto (pc := 64) C dX2_happen_64 (tgt := 77) (by decide) ?_
        exact k_X2_happen_77 C hr hR  _ _ _ _ _ h
      · have h := of_neg c6 h
        rcases Classical.em (v1 = 3) with c8 | c8
        · have h := of_pos c8 h
          refine kj_tsIn (pc := 1) C (off := 66) (tgt := 67) dX2_happen_1 (by rw [c8]; decide) (by rw [c8]; decide) (by rw [c8]; decide) (by decide) ?_
          refine kj_ald0 (pc := 67) C dX2_happen_67 ?_
          refine gf_X2_23 (pc := 68) C dX2_happen_68 ?_
          obtain ⟨q7, eq7, h⟩ := of_bind h
          refine kj_callVN0 (pc := 71) C (ct_X7_takeVoices h18_1 eq7) (Nat.le_of_ble_eq_true rfl) mi_X7_takeVoices ml_X2_88 (rc_st h18_1) rfl rfl ar0 (Nat.le_of_ble_eq_true rfl) dX2_happen_71 ?_
          refine kj_goto (pc := 74) C dX2_happen_74 (tgt := 77) (by decide) ?_
          exact k_X2_happen_77 C hr hR  _ _ _ _ _ h
        · have h := of_neg c8 h
          refine kj_tsOut (pc := 1) C (tgt := 77) dX2_happen_1 (ts_out3 c2 c4 c6 c8) (by decide) ?_
          exact k_X2_happen_77 C hr hR  _ _ _ _ _ h
def f_X9_withoutDoings_5 (M : Mem) (n : Nat) (v2 : Int32) (v3 : Int64) (v5 : Int32) : Option (Int64) := match n with
  | 0 => none
  | n + 1 => if v2 ≤ v5 then some v3 else lt_ (v3 / 1000) (fun x2 => lt_ (v5 + 1) (fun x3 => f_X9_withoutDoings_5 M n v2 x2 x3))
set_option maxHeartbeats 4000000 in
set_option maxRecDepth 100000 in
theorem k_X9_withoutDoings_5 {g : GT} {X : XT} {M : Mem} {t : Int64} (C : Cx g X cX9_withoutDoings RX9 6 0) (hr : (xt X).sig.returnType = some .long) (hR : Rt g X (some (.long t)) M) (n : Nat) : ∀ (v2 : Int32) (v3 : Int64) (v5 : Int32) (w0 w1 : Option Value), f_X9_withoutDoings_5 M n v2 v3 v5 = some t → Kj g X 6 5 [w0, w1, some (.int v2), some (.long v3), none, some (.int v5)] [] M := by
  induction n with
  | zero => intro v2 v3 v5 w0 w1 h; rw [f_X9_withoutDoings_5] at h; cases h
  | succ n ih =>
    intro v2 v3 v5 w0 w1 h
    rw [f_X9_withoutDoings_5] at h
    refine kj_ild5 (pc := 5) C dX9_withoutDoings_5 ?_
    refine kj_ild2 (pc := 7) C dX9_withoutDoings_7 ?_
    refine kj_icmp_ge (pc := 8) C dX9_withoutDoings_8 (tgt := 23) (by decide) (fun c1 => ?_) (fun c1 => ?_)
    · have h := of_pos c1 h
      refine kj_lld3 (pc := 23) C dX9_withoutDoings_23 ?_
      cases h
      exact kj_lret (pc := 24) C hr hR dX9_withoutDoings_24
    · have h := of_neg c1 h
      refine kj_lld3 (pc := 11) C dX9_withoutDoings_11 ?_
      refine kj_ldc2 (pc := 12) C cn_X9_249 dX9_withoutDoings_12 ?_
      refine kj_ldiv (pc := 15) C dX9_withoutDoings_15 (by decide) ?_
      obtain ⟨x2, ex2, h⟩ := of_lt h
      refine kj_nlg ex2 ?_
      refine kj_lst3 (pc := 16) C dX9_withoutDoings_16 (Nat.le_of_ble_eq_true rfl) rfl ?_
      obtain ⟨x3, ex3, h⟩ := of_lt h
      refine kj_iinc5 (pc := 17) C (v := x3) dX9_withoutDoings_17 (Nat.le_of_ble_eq_true rfl) rfl (by rw [ex3, ci_1]) ?_
      refine kj_goto (pc := 20) C dX9_withoutDoings_20 (tgt := 5) (by decide) ?_
      exact ih _ _ _ _ _ h
def f_X9_withoutDoings (v0 : Int64) (v2 : Int32) (M : Mem) : Option (Int64) := f_X9_withoutDoings_5 M 100 v2 v0 0
set_option maxHeartbeats 4000000 in
set_option maxRecDepth 100000 in
theorem ct_X9_withoutDoings {g : GT} {l : Launch} {v0 : Int64} {v2 : Int32} {M : Mem} {t : Int64} (h : f_X9_withoutDoings v0 v2 M = some t) : Ct g l 0 yX9_withoutDoings cX9_withoutDoings 6 (some .long) [.long v0, .int v2] M (some (.long t)) M := by
  refine ct_of (k := 3) (by decide) (Nat.le_of_ble_eq_true rfl) rfl (fun X C hl hr hR => ?_)
  subst hl
  have C : Cx g X cX9_withoutDoings RX9 6 0 := C
  unfold f_X9_withoutDoings at h
  refine kj_lld0 (pc := 0) C dX9_withoutDoings_0 ?_
  refine kj_lst3 (pc := 1) C dX9_withoutDoings_1 (Nat.le_of_ble_eq_true rfl) rfl ?_
  refine kj_iconst (pc := 2) C (v := 0) dX9_withoutDoings_2 ci_0 ?_
  refine kj_ist5 (pc := 3) C dX9_withoutDoings_3 (Nat.le_of_ble_eq_true rfl) rfl ?_
  exact k_X9_withoutDoings_5 C hr hR 100 _ _ _ _ _ h
def f_X2_firstWrongDoing_14 (n : Nat) (v1 : Int32) (v2 : Int64) (v4 : Int32) (M : Mem) : Option (Int32 × Mem) := match n with
  | 0 => none
  | n + 1 => if v1 ≤ v4 then some (((-9) : Int32), M) else (f_X9_withoutDoings v2 ((v1 - (1 : Int32)) - v4) M).bind (fun q2 => lt_ ((q2 - q2 / 1000 * 1000).toInt32) (fun x3 => lt_ (x3 / 100) (fun x4 => lt_ (x3 / 10) (fun x5 => lt_ (x5 - x5 / 10 * 10) (fun x6 => lt_ (x3 - x3 / 10 * 10) (fun x7 => (f_X2_canBe x4 x6 x7 M).bind (fun q8 => if q8 = 0 then some (v4, M) else (f_X2_happen x4 x6 x7 M).bind (fun q10 => lt_ (v4 + 1) (fun x11 => f_X2_firstWrongDoing_14 n v1 v2 x11 q10)))))))))
set_option maxHeartbeats 4000000 in
set_option maxRecDepth 100000 in
theorem k_X2_firstWrongDoing_14 {g : GT} {X : XT} {t : Int32 × Mem} (C : Cx g X cX2_firstWrongDoing RX2 9 5) (hr : (xt X).sig.returnType = some .int) (hR : Rt g X (some (.int t.1)) t.2) (n : Nat) : ∀ (v1 : Int32) (v2 : Int64) (v4 : Int32) (M : Mem) (w5 w6 w7 w8 : Option Value), f_X2_firstWrongDoing_14 n v1 v2 v4 M = some t → Kj g X 9 14 [some (.ref (ga g 24 0)), some (.int v1), some (.long v2), none, some (.int v4), w5, w6, w7, w8] [] M := by
  induction n with
  | zero => intro v1 v2 v4 M w5 w6 w7 w8 h; rw [f_X2_firstWrongDoing_14] at h; cases h
  | succ n ih =>
    intro v1 v2 v4 M w5 w6 w7 w8 h
    rw [f_X2_firstWrongDoing_14] at h
    refine kj_ild4 (pc := 14) C dX2_firstWrongDoing_14 ?_
    refine kj_ild1 (pc := 16) C dX2_firstWrongDoing_16 ?_
    refine kj_icmp_ge (pc := 17) C dX2_firstWrongDoing_17 (tgt := 93) (by decide) (fun c1 => ?_) (fun c1 => ?_)
    · have h := of_pos c1 h
      refine kj_bipush (pc := 93) C (v := (-9)) dX2_firstWrongDoing_93 cb_m9 ?_
      cases h
      exact kj_iret (pc := 95) C hr hR dX2_firstWrongDoing_95
    · have h := of_neg c1 h
      refine kj_lld2 (pc := 20) C dX2_firstWrongDoing_20 ?_
      refine kj_ild1 (pc := 21) C dX2_firstWrongDoing_21 ?_
      refine kj_iconst (pc := 22) C (v := 1) dX2_firstWrongDoing_22 ci_1 ?_
      refine kj_isub (pc := 23) C dX2_firstWrongDoing_23 ?_
      refine kj_ild4 (pc := 24) C dX2_firstWrongDoing_24 ?_
      refine kj_isub (pc := 26) C dX2_firstWrongDoing_26 ?_
      obtain ⟨q2, eq2, h⟩ := of_bind h
      refine kj_callSN1 (pc := 27) C (ct_X9_withoutDoings eq2) (Nat.le_of_ble_eq_true rfl) mi_X9_withoutDoings ml_X2_67 rfl as2 (Nat.le_of_ble_eq_true rfl) dX2_firstWrongDoing_27 ?_
      refine kj_ldc2 (pc := 30) C cn_X2_71 dX2_firstWrongDoing_30 ?_
      refine kj_lrem (pc := 33) C dX2_firstWrongDoing_33 (by decide) ?_
      refine kj_l2i (pc := 34) C dX2_firstWrongDoing_34 ?_
      obtain ⟨x3, ex3, h⟩ := of_lt h
      refine kj_ni ex3 ?_
      refine kj_ist5 (pc := 35) C dX2_firstWrongDoing_35 (Nat.le_of_ble_eq_true rfl) rfl ?_
      refine kj_ild5 (pc := 37) C dX2_firstWrongDoing_37 ?_
      refine kj_bipush (pc := 39) C (v := 100) dX2_firstWrongDoing_39 cb_100 ?_
      refine kj_idiv (pc := 41) C dX2_firstWrongDoing_41 (by decide) ?_
      obtain ⟨x4, ex4, h⟩ := of_lt h
      refine kj_ni ex4 ?_
      refine kj_ist6 (pc := 42) C dX2_firstWrongDoing_42 (Nat.le_of_ble_eq_true rfl) rfl ?_
      refine kj_ild5 (pc := 44) C dX2_firstWrongDoing_44 ?_
      refine kj_bipush (pc := 46) C (v := 10) dX2_firstWrongDoing_46 cb_10 ?_
      refine kj_idiv (pc := 48) C dX2_firstWrongDoing_48 (by decide) ?_
      refine kj_bipush (pc := 49) C (v := 10) dX2_firstWrongDoing_49 cb_10 ?_
      obtain ⟨x5, ex5, h⟩ := of_lt h
      rw [← ex5]
      refine kj_irem (pc := 51) C dX2_firstWrongDoing_51 (by decide) ?_
      obtain ⟨x6, ex6, h⟩ := of_lt h
      refine kj_ni ex6 ?_
      refine kj_ist7 (pc := 52) C dX2_firstWrongDoing_52 (Nat.le_of_ble_eq_true rfl) rfl ?_
      refine kj_ild5 (pc := 54) C dX2_firstWrongDoing_54 ?_
      refine kj_bipush (pc := 56) C (v := 10) dX2_firstWrongDoing_56 cb_10 ?_
      refine kj_irem (pc := 58) C dX2_firstWrongDoing_58 (by decide) ?_
      obtain ⟨x7, ex7, h⟩ := of_lt h
      refine kj_ni ex7 ?_
      refine kj_ist8 (pc := 59) C dX2_firstWrongDoing_59 (Nat.le_of_ble_eq_true rfl) rfl ?_
      refine kj_ald0 (pc := 61) C dX2_firstWrongDoing_61 ?_
      refine kj_ild6 (pc := 62) C dX2_firstWrongDoing_62 ?_
      refine kj_ild7 (pc := 64) C dX2_firstWrongDoing_64 ?_
      refine kj_ild8 (pc := 66) C dX2_firstWrongDoing_66 ?_
      obtain ⟨q8, eq8, h⟩ := of_bind h
      refine kj_callV1 (pc := 68) C (ct_X2_canBe eq8) (Nat.le_of_ble_eq_true rfl) mi_X2_canBe ml_X2_73 rc_24 rfl rfl ar3 (Nat.le_of_ble_eq_true rfl) dX2_firstWrongDoing_68 ?_
      refine kj_if_ne (pc := 71) C dX2_firstWrongDoing_71 (tgt := 77) (by decide) (fun c9 => ?_) (fun c9 => ?_)
      · have h := of_neg c9 h
        refine kj_ald0 (pc := 77) C dX2_firstWrongDoing_77 ?_
        refine kj_ild6 (pc := 78) C dX2_firstWrongDoing_78 ?_
        refine kj_ild7 (pc := 80) C dX2_firstWrongDoing_80 ?_
        refine kj_ild8 (pc := 82) C dX2_firstWrongDoing_82 ?_
        obtain ⟨q10, eq10, h⟩ := of_bind h
        refine kj_callV0 (pc := 84) C (ct_X2_happen eq10) (Nat.le_of_ble_eq_true rfl) mi_X2_happen ml_X2_77 rc_24 rfl rfl ar3 (Nat.le_of_ble_eq_true rfl) dX2_firstWrongDoing_84 ?_
        obtain ⟨x11, ex11, h⟩ := of_lt h
        refine kj_iinc4 (pc := 87) C (v := x11) dX2_firstWrongDoing_87 (Nat.le_of_ble_eq_true rfl) rfl (by rw [ex11, ci_1]) ?_
        refine kj_goto (pc := 90) C dX2_firstWrongDoing_90 (tgt := 14) (by decide) ?_
        exact ih _ _ _ _ _ _ _ _ h
      · have h := of_pos c9 h
        refine kj_ild4 (pc := 74) C dX2_firstWrongDoing_74 ?_
        cases h
        exact kj_iret (pc := 76) C hr hR dX2_firstWrongDoing_76
def f_X2_firstWrongDoing (v1 : Int32) (v2 : Int64) (M : Mem) : Option (Int32 × Mem) := (f_X7_copyFrom 1 0 M).bind (fun q1 => f_X2_firstWrongDoing_14 100 v1 v2 0 q1)
set_option maxHeartbeats 4000000 in
set_option maxRecDepth 100000 in
theorem ct_X2_firstWrongDoing {g : GT} {l : Launch} {v1 : Int32} {v2 : Int64} {M : Mem} {t : Int32 × Mem} (h : f_X2_firstWrongDoing v1 v2 M = some t) : Ct g l 5 yX2_firstWrongDoing cX2_firstWrongDoing 9 (some .int) [.ref (ga g 24 0), .int v1, .long v2] M (some (.int t.1)) t.2 := by
  refine ct_of (k := 5) (by decide) (Nat.le_of_ble_eq_true rfl) rfl (fun X C hl hr hR => ?_)
  subst hl
  have C : Cx g X cX2_firstWrongDoing RX2 9 5 := C
  unfold f_X2_firstWrongDoing at h
  refine kj_ald0 (pc := 0) C dX2_firstWrongDoing_0 ?_
  refine gf_X2_23 (pc := 1) C dX2_firstWrongDoing_1 ?_
  refine kj_ald0 (pc := 4) C dX2_firstWrongDoing_4 ?_
  refine gf_X2_19 (pc := 5) C dX2_firstWrongDoing_5 ?_
  obtain ⟨q1, eq1, h⟩ := of_bind h
  refine kj_callVN0 (pc := 8) C (ct_X7_copyFrom h18_1 h18_0 eq1) (Nat.le_of_ble_eq_true rfl) mi_X7_copyFrom ml_X2_26 (rc_st h18_1) rfl rfl ar1 (Nat.le_of_ble_eq_true rfl) dX2_firstWrongDoing_8 ?_
  refine kj_iconst (pc := 11) C (v := 0) dX2_firstWrongDoing_11 ci_0 ?_
  refine kj_ist4 (pc := 12) C dX2_firstWrongDoing_12 (Nat.le_of_ble_eq_true rfl) rfl ?_
  exact k_X2_firstWrongDoing_14 C hr hR 100 _ _ _ _ _ _ _ _ h
def f_X3_allowsAt_67 (o2 : Nat) (M : Mem) : Option (Int32) := some (1 : Int32)
set_option maxHeartbeats 4000000 in
set_option maxRecDepth 100000 in
theorem k_X3_allowsAt_67 {g : GT} {X : XT} {o2 : Nat} {M : Mem} {t : Int32} (C : Cx g X cX3_allowsAt RX3 5 1) (hr : (xt X).sig.returnType = some .boolean) (hR : Rt g X (some (.int t)) M) (ho2 : o2 < 18) : ∀ (w0 w1 w2 w3 w4 : Option Value), f_X3_allowsAt_67 o2 M = some t → Kj g X 5 67 [w0, w1, w2, w3, w4] [] M := by
  intro w0 w1 w2 w3 w4 h
  unfold f_X3_allowsAt_67 at h
  refine kj_iconst (pc := 67) C (v := 1) dX3_allowsAt_67 ci_1 ?_
  cases h
  exact kj_zret (pc := 68) C hr (by decide) hR dX3_allowsAt_68
def f_X3_allowsAt_61 (o2 : Nat) (M : Mem) (k2 : Int32 → Int32 → Option (Int32)) (v1 : Int32) (v3 : Int32) : Option (Int32) := lt_ (v3 + 1) (fun x1 => k2 v1 x1)
set_option maxHeartbeats 4000000 in
set_option maxRecDepth 100000 in
theorem k_X3_allowsAt_61 {g : GT} {X : XT} {o2 : Nat} {M : Mem} {k2 : Int32 → Int32 → Option (Int32)} {t : Int32} (C : Cx g X cX3_allowsAt RX3 5 1) (hr : (xt X).sig.returnType = some .boolean) (hR : Rt g X (some (.int t)) M) (ho2 : o2 < 18) (hk2 : ∀ (v1 : Int32) (v3 : Int32) (w4 : Option Value), k2 v1 v3 = some t → Kj g X 5 2 [some (.ref (ga g 23 0)), some (.int v1), some (.ref (ga g o2 0)), some (.int v3), w4] [] M) : ∀ (v1 : Int32) (v3 : Int32) (w4 : Option Value), f_X3_allowsAt_61 o2 M k2 v1 v3 = some t → Kj g X 5 61 [some (.ref (ga g 23 0)), some (.int v1), some (.ref (ga g o2 0)), some (.int v3), w4] [] M := by
  intro v1 v3 w4 h
  unfold f_X3_allowsAt_61 at h
  obtain ⟨x1, ex1, h⟩ := of_lt h
  refine kj_iinc3 (pc := 61) C (v := x1) dX3_allowsAt_61 (Nat.le_of_ble_eq_true rfl) rfl (by rw [ex1, ci_1]) ?_
  refine kj_goto (pc := 64) C dX3_allowsAt_64 (tgt := 2) (by decide) ?_
  exact hk2 _ _ _ h
def f_X3_allowsAt_2 (o2 : Nat) (M : Mem) (n : Nat) (v1 : Int32) (v3 : Int32) : Option (Int32) := match n with
  | 0 => none
  | n + 1 => if (M.1 23 0 3) ≤ v3 then f_X3_allowsAt_67 o2 M else if 6 ≤ v3 then f_X3_allowsAt_67 o2 M else if ¬ (v3 < 0 ∨ 6 ≤ v3.toNatClampNeg) then lt_ (M.1 23 1 v3.toNatClampNeg) (fun x4 => if ¬ (v3 < 0 ∨ 6 ≤ v3.toNatClampNeg) then if (M.1 23 2 v3.toNatClampNeg) = v1 then (f_X7_isThere o2 x4 M).bind (fun q7 => if q7 = 0 then f_X3_allowsAt_61 o2 M (f_X3_allowsAt_2 o2 M n) v1 v3 else if ¬ (x4 < 0 ∨ 6 ≤ x4.toNatClampNeg) then if ¬ (v3 < 0 ∨ 6 ≤ v3.toNatClampNeg) then if (M.1 o2 3 x4.toNatClampNeg) = (M.1 23 3 v3.toNatClampNeg) then f_X3_allowsAt_61 o2 M (f_X3_allowsAt_2 o2 M n) v1 v3 else some (0 : Int32) else none else none) else f_X3_allowsAt_61 o2 M (f_X3_allowsAt_2 o2 M n) v1 v3 else none) else none
set_option maxHeartbeats 4000000 in
set_option maxRecDepth 100000 in
theorem k_X3_allowsAt_2 {g : GT} {X : XT} {o2 : Nat} {M : Mem} {t : Int32} (C : Cx g X cX3_allowsAt RX3 5 1) (hr : (xt X).sig.returnType = some .boolean) (hR : Rt g X (some (.int t)) M) (ho2 : o2 < 18) (n : Nat) : ∀ (v1 : Int32) (v3 : Int32) (w4 : Option Value), f_X3_allowsAt_2 o2 M n v1 v3 = some t → Kj g X 5 2 [some (.ref (ga g 23 0)), some (.int v1), some (.ref (ga g o2 0)), some (.int v3), w4] [] M := by
  induction n with
  | zero => intro v1 v3 w4 h; rw [f_X3_allowsAt_2] at h; cases h
  | succ n ih =>
    intro v1 v3 w4 h
    rw [f_X3_allowsAt_2] at h
    refine kj_ild3 (pc := 2) C dX3_allowsAt_2 ?_
    refine kj_ald0 (pc := 3) C dX3_allowsAt_3 ?_
    refine gf_X3_21 (pc := 4) C dX3_allowsAt_4 ?_
    refine kj_icmp_ge (pc := 7) C dX3_allowsAt_7 (tgt := 67) (by decide) (fun c1 => ?_) (fun c1 => ?_)
    · have h := of_pos c1 h
      exact k_X3_allowsAt_67 C hr hR ho2  _ _ _ _ _ h
    · have h := of_neg c1 h
      refine kj_ild3 (pc := 10) C dX3_allowsAt_10 ?_
      refine kj_bipush (pc := 11) C (v := 6) dX3_allowsAt_11 cb_6 ?_
      refine kj_icmp_ge (pc := 13) C dX3_allowsAt_13 (tgt := 67) (by decide) (fun c2 => ?_) (fun c2 => ?_)
      · have h := of_pos c2 h
        exact k_X3_allowsAt_67 C hr hR ho2  _ _ _ _ _ h
      · have h := of_neg c2 h
        refine kj_ald0 (pc := 16) C dX3_allowsAt_16 ?_
        refine gf_X3_9 (pc := 17) C dX3_allowsAt_17 ?_
        refine kj_ild3 (pc := 20) C dX3_allowsAt_20 ?_
        obtain ⟨c3, h⟩ := of_gd h
        refine kj_iald2 (pc := 21) C ia_23_1 c3 dX3_allowsAt_21 ?_
        obtain ⟨x4, ex4, h⟩ := of_lt h
        refine kj_ni ex4 ?_
        refine kj_ist4 (pc := 22) C dX3_allowsAt_22 (Nat.le_of_ble_eq_true rfl) rfl ?_
        refine kj_ald0 (pc := 24) C dX3_allowsAt_24 ?_
        refine gf_X3_15 (pc := 25) C dX3_allowsAt_25 ?_
        refine kj_ild3 (pc := 28) C dX3_allowsAt_28 ?_
        obtain ⟨c5, h⟩ := of_gd h
        refine kj_iald2 (pc := 29) C ia_23_2 c5 dX3_allowsAt_29 ?_
        refine kj_ild1 (pc := 30) C dX3_allowsAt_30 ?_
        refine kj_icmp_ne (pc := 31) C dX3_allowsAt_31 (tgt := 61) (by decide) (fun c6 => ?_) (fun c6 => ?_)
        · have h := of_neg c6 h
          exact k_X3_allowsAt_61 C hr hR ho2 ih _ _ _ h
        · have h := of_pos c6 h
          refine kj_ald2 (pc := 34) C dX3_allowsAt_34 ?_
          refine kj_ild4 (pc := 35) C dX3_allowsAt_35 ?_
          obtain ⟨q7, eq7, h⟩ := of_bind h
          refine kj_callVN1 (pc := 37) C (ct_X7_isThere ho2 eq7) (Nat.le_of_ble_eq_true rfl) mi_X7_isThere ml_X3_25 (rc_st ho2) rfl rfl ar1 (Nat.le_of_ble_eq_true rfl) dX3_allowsAt_37 ?_
          refine kj_if_eq (pc := 40) C dX3_allowsAt_40 (tgt := 61) (by decide) (fun c8 => ?_) (fun c8 => ?_)
          · have h := of_pos c8 h
            exact k_X3_allowsAt_61 C hr hR ho2 ih _ _ _ h
          · have h := of_neg c8 h
            refine kj_ald2 (pc := 43) C dX3_allowsAt_43 ?_
            refine gf_X3_31 (pc := 44) C ho2 dX3_allowsAt_44 ?_
            refine kj_ild4 (pc := 47) C dX3_allowsAt_47 ?_
            obtain ⟨c9, h⟩ := of_gd h
            refine kj_iald2 (pc := 49) C (ia_st ho2 ⟨by decide, by decide⟩) c9 dX3_allowsAt_49 ?_
            refine kj_ald0 (pc := 50) C dX3_allowsAt_50 ?_
            refine gf_X3_18 (pc := 51) C dX3_allowsAt_51 ?_
            refine kj_ild3 (pc := 54) C dX3_allowsAt_54 ?_
            obtain ⟨c10, h⟩ := of_gd h
            refine kj_iald2 (pc := 55) C ia_23_3 c10 dX3_allowsAt_55 ?_
            refine kj_icmp_eq (pc := 56) C dX3_allowsAt_56 (tgt := 61) (by decide) (fun c11 => ?_) (fun c11 => ?_)
            · have h := of_pos c11 h
              exact k_X3_allowsAt_61 C hr hR ho2 ih _ _ _ h
            · have h := of_neg c11 h
              refine kj_iconst (pc := 59) C (v := 0) dX3_allowsAt_59 ci_0 ?_
              cases h
              exact kj_zret (pc := 60) C hr (by decide) hR dX3_allowsAt_60
def f_X3_allowsAt (o2 : Nat) (v1 : Int32) (M : Mem) : Option (Int32) := f_X3_allowsAt_2 o2 M 100 v1 0
set_option maxHeartbeats 4000000 in
set_option maxRecDepth 100000 in
theorem ct_X3_allowsAt {g : GT} {l : Launch} {o2 : Nat} {v1 : Int32} {M : Mem} {t : Int32} (ho2 : o2 < 18) (h : f_X3_allowsAt o2 v1 M = some t) : Ct g l 1 yX3_allowsAt cX3_allowsAt 5 (some .boolean) [.ref (ga g 23 0), .int v1, .ref (ga g o2 0)] M (some (.int t)) M := by
  refine ct_of (k := 2) (by decide) (Nat.le_of_ble_eq_true rfl) rfl (fun X C hl hr hR => ?_)
  subst hl
  have C : Cx g X cX3_allowsAt RX3 5 1 := C
  unfold f_X3_allowsAt at h
  refine kj_iconst (pc := 0) C (v := 0) dX3_allowsAt_0 ci_0 ?_
  refine kj_ist3 (pc := 1) C dX3_allowsAt_1 (Nat.le_of_ble_eq_true rfl) rfl ?_
  exact k_X3_allowsAt_2 C hr hR ho2 100 _ _ _ h
def f_X2_isAllHeard_2 (n : Nat) (v2 : Int32) (M : Mem) : Option (Int32 × Mem) := match n with
  | 0 => none
  | n + 1 => if 9 < v2 then some ((1 : Int32), M) else (f_X3_allowsAt 1 v2 M).bind (fun q2 => if q2 = 0 then some ((0 : Int32), M) else (f_X7_goOn 1 1 M).bind (fun q4 => lt_ (v2 + 1) (fun x5 => f_X2_isAllHeard_2 n x5 q4)))
set_option maxHeartbeats 4000000 in
set_option maxRecDepth 100000 in
theorem k_X2_isAllHeard_2 {g : GT} {X : XT} {t : Int32 × Mem} (C : Cx g X cX2_isAllHeard RX2 3 4) (hr : (xt X).sig.returnType = some .boolean) (hR : Rt g X (some (.int t.1)) t.2) (n : Nat) : ∀ (v2 : Int32) (M : Mem), f_X2_isAllHeard_2 n v2 M = some t → Kj g X 3 2 [some (.ref (ga g 24 0)), some (.ref (ga g 23 0)), some (.int v2)] [] M := by
  induction n with
  | zero => intro v2 M h; rw [f_X2_isAllHeard_2] at h; cases h
  | succ n ih =>
    intro v2 M h
    rw [f_X2_isAllHeard_2] at h
    refine kj_ild2 (pc := 2) C dX2_isAllHeard_2 ?_
    refine kj_bipush (pc := 3) C (v := 9) dX2_isAllHeard_3 cb_9 ?_
    refine kj_icmp_gt (pc := 5) C dX2_isAllHeard_5 (tgt := 36) (by decide) (fun c1 => ?_) (fun c1 => ?_)
    · have h := of_pos c1 h
      refine kj_iconst (pc := 36) C (v := 1) dX2_isAllHeard_36 ci_1 ?_
      cases h
      exact kj_zret (pc := 37) C hr (by decide) hR dX2_isAllHeard_37
    · have h := of_neg c1 h
      refine kj_ald1 (pc := 8) C dX2_isAllHeard_8 ?_
      refine kj_ild2 (pc := 9) C dX2_isAllHeard_9 ?_
      refine kj_ald0 (pc := 10) C dX2_isAllHeard_10 ?_
      refine gf_X2_23 (pc := 11) C dX2_isAllHeard_11 ?_
      obtain ⟨q2, eq2, h⟩ := of_bind h
      refine kj_callVN1 (pc := 14) C (ct_X3_allowsAt h18_1 eq2) (Nat.le_of_ble_eq_true rfl) mi_X3_allowsAt ml_X2_98 rc_23 rfl rfl ar2 (Nat.le_of_ble_eq_true rfl) dX2_isAllHeard_14 ?_
      refine kj_if_ne (pc := 17) C dX2_isAllHeard_17 (tgt := 22) (by decide) (fun c3 => ?_) (fun c3 => ?_)
      · have h := of_neg c3 h
        refine kj_ald0 (pc := 22) C dX2_isAllHeard_22 ?_
        refine gf_X2_23 (pc := 23) C dX2_isAllHeard_23 ?_
        refine kj_iconst (pc := 26) C (v := 1) dX2_isAllHeard_26 ci_1 ?_
        obtain ⟨q4, eq4, h⟩ := of_bind h
        refine kj_callVN0 (pc := 27) C (ct_X7_goOn h18_1 eq4) (Nat.le_of_ble_eq_true rfl) mi_X7_goOn ml_X2_32 (rc_st h18_1) rfl rfl ar1 (Nat.le_of_ble_eq_true rfl) dX2_isAllHeard_27 ?_
        obtain ⟨x5, ex5, h⟩ := of_lt h
        refine kj_iinc2 (pc := 30) C (v := x5) dX2_isAllHeard_30 (Nat.le_of_ble_eq_true rfl) rfl (by rw [ex5, ci_1]) ?_
        refine kj_goto (pc := 33) C dX2_isAllHeard_33 (tgt := 2) (by decide) ?_
        exact ih _ _ h
      · have h := of_pos c3 h
        refine kj_iconst (pc := 20) C (v := 0) dX2_isAllHeard_20 ci_0 ?_
        cases h
        exact kj_zret (pc := 21) C hr (by decide) hR dX2_isAllHeard_21
def f_X2_isAllHeard (M : Mem) : Option (Int32 × Mem) := f_X2_isAllHeard_2 100 0 M
set_option maxHeartbeats 4000000 in
set_option maxRecDepth 100000 in
theorem ct_X2_isAllHeard {g : GT} {l : Launch} {M : Mem} {t : Int32 × Mem} (h : f_X2_isAllHeard M = some t) : Ct g l 4 yX2_isAllHeard cX2_isAllHeard 3 (some .boolean) [.ref (ga g 24 0), .ref (ga g 23 0)] M (some (.int t.1)) t.2 := by
  refine ct_of (k := 1) (by decide) (Nat.le_of_ble_eq_true rfl) rfl (fun X C hl hr hR => ?_)
  subst hl
  have C : Cx g X cX2_isAllHeard RX2 3 4 := C
  unfold f_X2_isAllHeard at h
  refine kj_iconst (pc := 0) C (v := 0) dX2_isAllHeard_0 ci_0 ?_
  refine kj_ist2 (pc := 1) C dX2_isAllHeard_1 (Nat.le_of_ble_eq_true rfl) rfl ?_
  exact k_X2_isAllHeard_2 C hr hR 100 _ _ h
def f_X2_goodsThatFit_49 (k5 : Int32 → Int32 → Int32 → Mem → Option (Int32 × Mem)) (v1 : Int32) (v3 : Int32) (v4 : Int32) (M : Mem) : Option (Int32 × Mem) := lt_ (v4 + 1) (fun x1 => k5 v1 v3 x1 M)
set_option maxHeartbeats 4000000 in
set_option maxRecDepth 100000 in
theorem k_X2_goodsThatFit_49 {g : GT} {X : XT} {k5 : Int32 → Int32 → Int32 → Mem → Option (Int32 × Mem)} {t : Int32 × Mem} (C : Cx g X cX2_goodsThatFit RX2 5 5) (hr : (xt X).sig.returnType = some .int) (hR : Rt g X (some (.int t.1)) t.2) (hk5 : ∀ (v1 : Int32) (v3 : Int32) (v4 : Int32) (M : Mem), k5 v1 v3 v4 M = some t → Kj g X 5 5 [some (.ref (ga g 24 0)), some (.int v1), some (.ref (ga g 23 0)), some (.int v3), some (.int v4)] [] M) : ∀ (v1 : Int32) (v3 : Int32) (v4 : Int32) (M : Mem), f_X2_goodsThatFit_49 k5 v1 v3 v4 M = some t → Kj g X 5 49 [some (.ref (ga g 24 0)), some (.int v1), some (.ref (ga g 23 0)), some (.int v3), some (.int v4)] [] M := by
  intro v1 v3 v4 M h
  unfold f_X2_goodsThatFit_49 at h
  obtain ⟨x1, ex1, h⟩ := of_lt h
  refine kj_iinc4 (pc := 49) C (v := x1) dX2_goodsThatFit_49 (Nat.le_of_ble_eq_true rfl) rfl (by rw [ex1, ci_1]) ?_
  refine kj_goto (pc := 52) C dX2_goodsThatFit_52 (tgt := 5) (by decide) ?_
  exact hk5 _ _ _ _ h
def f_X2_goodsThatFit_5 (n : Nat) (v1 : Int32) (v3 : Int32) (v4 : Int32) (M : Mem) : Option (Int32 × Mem) := match n with
  | 0 => none
  | n + 1 => if 9 < v4 then some (v3, M) else (f_X7_copyFrom 1 0 M).bind (fun q2 => if ¬ (v1 < 0 ∨ 6 ≤ v1.toNatClampNeg) then lt_ (sw q2 1 2 v1.toNatClampNeg v4) (fun M4 => (f_X2_isAllHeard M4).bind (fun q5 => if q5.1 = 0 then f_X2_goodsThatFit_49 (f_X2_goodsThatFit_5 n) v1 v3 v4 q5.2 else lt_ (v3 ||| ((1 : Int32) <<< (v4 &&& 31))) (fun x7 => f_X2_goodsThatFit_49 (f_X2_goodsThatFit_5 n) v1 x7 v4 q5.2))) else none)
set_option maxHeartbeats 4000000 in
set_option maxRecDepth 100000 in
theorem k_X2_goodsThatFit_5 {g : GT} {X : XT} {t : Int32 × Mem} (C : Cx g X cX2_goodsThatFit RX2 5 5) (hr : (xt X).sig.returnType = some .int) (hR : Rt g X (some (.int t.1)) t.2) (n : Nat) : ∀ (v1 : Int32) (v3 : Int32) (v4 : Int32) (M : Mem), f_X2_goodsThatFit_5 n v1 v3 v4 M = some t → Kj g X 5 5 [some (.ref (ga g 24 0)), some (.int v1), some (.ref (ga g 23 0)), some (.int v3), some (.int v4)] [] M := by
  induction n with
  | zero => intro v1 v3 v4 M h; rw [f_X2_goodsThatFit_5] at h; cases h
  | succ n ih =>
    intro v1 v3 v4 M h
    rw [f_X2_goodsThatFit_5] at h
    refine kj_ild4 (pc := 5) C dX2_goodsThatFit_5 ?_
    refine kj_bipush (pc := 7) C (v := 9) dX2_goodsThatFit_7 cb_9 ?_
    refine kj_icmp_gt (pc := 9) C dX2_goodsThatFit_9 (tgt := 55) (by decide) (fun c1 => ?_) (fun c1 => ?_)
    · have h := of_pos c1 h
      refine kj_ild3 (pc := 55) C dX2_goodsThatFit_55 ?_
      cases h
      exact kj_iret (pc := 56) C hr hR dX2_goodsThatFit_56
    · have h := of_neg c1 h
      refine kj_ald0 (pc := 12) C dX2_goodsThatFit_12 ?_
      refine gf_X2_23 (pc := 13) C dX2_goodsThatFit_13 ?_
      refine kj_ald0 (pc := 16) C dX2_goodsThatFit_16 ?_
      refine gf_X2_19 (pc := 17) C dX2_goodsThatFit_17 ?_
      obtain ⟨q2, eq2, h⟩ := of_bind h
      refine kj_callVN0 (pc := 20) C (ct_X7_copyFrom h18_1 h18_0 eq2) (Nat.le_of_ble_eq_true rfl) mi_X7_copyFrom ml_X2_26 (rc_st h18_1) rfl rfl ar1 (Nat.le_of_ble_eq_true rfl) dX2_goodsThatFit_20 ?_
      refine kj_ald0 (pc := 23) C dX2_goodsThatFit_23 ?_
      refine gf_X2_23 (pc := 24) C dX2_goodsThatFit_24 ?_
      refine gf_X2_91 (pc := 27) C h18_1 dX2_goodsThatFit_27 ?_
      refine kj_ild1 (pc := 30) C dX2_goodsThatFit_30 ?_
      refine kj_ild4 (pc := 31) C dX2_goodsThatFit_31 ?_
      obtain ⟨c3, h⟩ := of_gd h
      obtain ⟨M4, eM4, h⟩ := of_lt h
      refine kj_iast2 (pc := 33) C (ia_st h18_1 ⟨by decide, by decide⟩) c3 dX2_goodsThatFit_33 ?_
      refine kj_nM eM4 ?_
      refine kj_ald0 (pc := 34) C dX2_goodsThatFit_34 ?_
      refine kj_ald2 (pc := 35) C dX2_goodsThatFit_35 ?_
      obtain ⟨q5, eq5, h⟩ := of_bind h
      refine kj_callV1 (pc := 36) C (ct_X2_isAllHeard eq5) (Nat.le_of_ble_eq_true rfl) mi_X2_isAllHeard ml_X2_94 rc_24 rfl rfl ar1 (Nat.le_of_ble_eq_true rfl) dX2_goodsThatFit_36 ?_
      refine kj_if_eq (pc := 39) C dX2_goodsThatFit_39 (tgt := 49) (by decide) (fun c6 => ?_) (fun c6 => ?_)
      · have h := of_pos c6 h
        exact k_X2_goodsThatFit_49 C hr hR ih _ _ _ _ h
      · have h := of_neg c6 h
        refine kj_ild3 (pc := 42) C dX2_goodsThatFit_42 ?_
        refine kj_iconst (pc := 43) C (v := 1) dX2_goodsThatFit_43 ci_1 ?_
        refine kj_ild4 (pc := 44) C dX2_goodsThatFit_44 ?_
        refine kj_ishl (pc := 46) C dX2_goodsThatFit_46 ?_
        refine kj_ior (pc := 47) C dX2_goodsThatFit_47 ?_
        obtain ⟨x7, ex7, h⟩ := of_lt h
        refine kj_ni ex7 ?_
        refine kj_ist3 (pc := 48) C dX2_goodsThatFit_48 (Nat.le_of_ble_eq_true rfl) rfl ?_
        exact k_X2_goodsThatFit_49 C hr hR ih _ _ _ _ h
def f_X2_goodsThatFit (v1 : Int32) (M : Mem) : Option (Int32 × Mem) := f_X2_goodsThatFit_5 100 v1 0 0 M
set_option maxHeartbeats 4000000 in
set_option maxRecDepth 100000 in
theorem ct_X2_goodsThatFit {g : GT} {l : Launch} {v1 : Int32} {M : Mem} {t : Int32 × Mem} (h : f_X2_goodsThatFit v1 M = some t) : Ct g l 5 yX2_goodsThatFit cX2_goodsThatFit 5 (some .int) [.ref (ga g 24 0), .int v1, .ref (ga g 23 0)] M (some (.int t.1)) t.2 := by
  refine ct_of (k := 2) (by decide) (Nat.le_of_ble_eq_true rfl) rfl (fun X C hl hr hR => ?_)
  subst hl
  have C : Cx g X cX2_goodsThatFit RX2 5 5 := C
  unfold f_X2_goodsThatFit at h
  refine kj_iconst (pc := 0) C (v := 0) dX2_goodsThatFit_0 ci_0 ?_
  refine kj_ist3 (pc := 1) C dX2_goodsThatFit_1 (Nat.le_of_ble_eq_true rfl) rfl ?_
  refine kj_iconst (pc := 2) C (v := 0) dX2_goodsThatFit_2 ci_0 ?_
  refine kj_ist4 (pc := 3) C dX2_goodsThatFit_3 (Nat.le_of_ble_eq_true rfl) rfl ?_
  exact k_X2_goodsThatFit_5 C hr hR 100 _ _ _ _ h
def f_X3_put_16 (M : Mem) : Option (Int32 × Mem) := some ((0 : Int32), M)
set_option maxHeartbeats 4000000 in
set_option maxRecDepth 100000 in
theorem k_X3_put_16 {g : GT} {X : XT} {t : Int32 × Mem} (C : Cx g X cX3_put RX3 4 0) (hr : (xt X).sig.returnType = some .boolean) (hR : Rt g X (some (.int t.1)) t.2) : ∀ (M : Mem) (w0 w1 w2 w3 : Option Value), f_X3_put_16 M = some t → Kj g X 4 16 [w0, w1, w2, w3] [] M := by
  intro M w0 w1 w2 w3 h
  unfold f_X3_put_16 at h
  refine kj_iconst (pc := 16) C (v := 0) dX3_put_16 ci_0 ?_
  cases h
  exact kj_zret (pc := 17) C hr (by decide) hR dX3_put_17
def f_X3_put (v1 : Int32) (v2 : Int32) (v3 : Int32) (M : Mem) : Option (Int32 × Mem) := if (M.1 23 0 3) < 0 then f_X3_put_16 M else if (M.1 23 0 3) < 6 then lt_ (M.1 23 0 3) (fun x4 => if ¬ (x4 < 0 ∨ 6 ≤ x4.toNatClampNeg) then lt_ (sw M 23 1 x4.toNatClampNeg v1) (fun M5 => lt_ (M5.1 23 0 3) (fun x7 => if ¬ (x7 < 0 ∨ 6 ≤ x7.toNatClampNeg) then lt_ (sw M5 23 2 x7.toNatClampNeg v2) (fun M8 => lt_ (M8.1 23 0 3) (fun x10 => if ¬ (x10 < 0 ∨ 6 ≤ x10.toNatClampNeg) then lt_ (sw M8 23 3 x10.toNatClampNeg v3) (fun M11 => lt_ (sw M11 23 0 3 ((M11.1 23 0 3) + (1 : Int32))) (fun M12 => some ((1 : Int32), M12))) else none)) else none)) else none) else f_X3_put_16 M
set_option maxHeartbeats 4000000 in
set_option maxRecDepth 100000 in
theorem ct_X3_put {g : GT} {l : Launch} {v1 : Int32} {v2 : Int32} {v3 : Int32} {M : Mem} {t : Int32 × Mem} (h : f_X3_put v1 v2 v3 M = some t) : Ct g l 0 yX3_put cX3_put 4 (some .boolean) [.ref (ga g 23 0), .int v1, .int v2, .int v3] M (some (.int t.1)) t.2 := by
  refine ct_of (k := 0) (by decide) (Nat.le_of_ble_eq_true rfl) rfl (fun X C hl hr hR => ?_)
  subst hl
  have C : Cx g X cX3_put RX3 4 0 := C
  unfold f_X3_put at h
  refine kj_ald0 (pc := 0) C dX3_put_0 ?_
  refine gf_X3_21 (pc := 1) C dX3_put_1 ?_
  refine kj_if_lt (pc := 4) C dX3_put_4 (tgt := 16) (by decide) (fun c1 => ?_) (fun c1 => ?_)
  · have h := of_pos c1 h
    exact k_X3_put_16 C hr hR  _ _ _ _ _ h
  · have h := of_neg c1 h
    refine kj_ald0 (pc := 7) C dX3_put_7 ?_
    refine gf_X3_21 (pc := 8) C dX3_put_8 ?_
    refine kj_bipush (pc := 11) C (v := 6) dX3_put_11 cb_6 ?_
    refine kj_icmp_lt (pc := 13) C dX3_put_13 (tgt := 18) (by decide) (fun c2 => ?_) (fun c2 => ?_)
    · have h := of_pos c2 h
      refine kj_ald0 (pc := 18) C dX3_put_18 ?_
      refine gf_X3_9 (pc := 19) C dX3_put_19 ?_
      refine kj_ald0 (pc := 22) C dX3_put_22 ?_
      refine gf_X3_21 (pc := 23) C dX3_put_23 ?_
      refine kj_ild1 (pc := 26) C dX3_put_26 ?_
      obtain ⟨x4, ex4, h⟩ := of_lt h
      refine kj_ni2 ex4 ?_
      obtain ⟨c3, h⟩ := of_gd h
      obtain ⟨M5, eM5, h⟩ := of_lt h
      refine kj_iast2 (pc := 27) C ia_23_1 c3 dX3_put_27 ?_
      refine kj_nM eM5 ?_
      refine kj_ald0 (pc := 28) C dX3_put_28 ?_
      refine gf_X3_15 (pc := 29) C dX3_put_29 ?_
      refine kj_ald0 (pc := 32) C dX3_put_32 ?_
      refine gf_X3_21 (pc := 33) C dX3_put_33 ?_
      refine kj_ild2 (pc := 36) C dX3_put_36 ?_
      obtain ⟨x7, ex7, h⟩ := of_lt h
      refine kj_ni2 ex7 ?_
      obtain ⟨c6, h⟩ := of_gd h
      obtain ⟨M8, eM8, h⟩ := of_lt h
      refine kj_iast2 (pc := 37) C ia_23_2 c6 dX3_put_37 ?_
      refine kj_nM eM8 ?_
      refine kj_ald0 (pc := 38) C dX3_put_38 ?_
      refine gf_X3_18 (pc := 39) C dX3_put_39 ?_
      refine kj_ald0 (pc := 42) C dX3_put_42 ?_
      refine gf_X3_21 (pc := 43) C dX3_put_43 ?_
      refine kj_ild3 (pc := 46) C dX3_put_46 ?_
      obtain ⟨x10, ex10, h⟩ := of_lt h
      refine kj_ni2 ex10 ?_
      obtain ⟨c9, h⟩ := of_gd h
      obtain ⟨M11, eM11, h⟩ := of_lt h
      refine kj_iast2 (pc := 47) C ia_23_3 c9 dX3_put_47 ?_
      refine kj_nM eM11 ?_
      refine kj_ald0 (pc := 48) C dX3_put_48 ?_
      refine kj_dup (pc := 49) C dX3_put_49 rfl ?_
      refine gf_X3_21 (pc := 50) C dX3_put_50 ?_
      refine kj_iconst (pc := 53) C (v := 1) dX3_put_53 ci_1 ?_
      refine kj_iadd (pc := 54) C dX3_put_54 ?_
      obtain ⟨M12, eM12, h⟩ := of_lt h
      refine pf_X3_21 (pc := 55) C dX3_put_55 ?_
      refine kj_nM eM12 ?_
      refine kj_iconst (pc := 58) C (v := 1) dX3_put_58 ci_1 ?_
      cases h
      exact kj_zret (pc := 59) C hr (by decide) hR dX3_put_59
    · have h := of_neg c2 h
      exact k_X3_put_16 C hr hR  _ _ _ _ _ h
def f_X5_put_19 (M : Mem) : Option (Int32 × Mem) := some ((0 : Int32), M)
set_option maxHeartbeats 4000000 in
set_option maxRecDepth 100000 in
theorem k_X5_put_19 {g : GT} {X : XT} {t : Int32 × Mem} (C : Cx g X cX5_put RX5 2 0) (hr : (xt X).sig.returnType = some .boolean) (hR : Rt g X (some (.int t.1)) t.2) : ∀ (M : Mem) (w0 w1 : Option Value), f_X5_put_19 M = some t → Kj g X 2 19 [w0, w1] [] M := by
  intro M w0 w1 h
  unfold f_X5_put_19 at h
  refine kj_iconst (pc := 19) C (v := 0) dX5_put_19 ci_0 ?_
  cases h
  exact kj_zret (pc := 20) C hr (by decide) hR dX5_put_20
def f_X5_put (v1 : Int32) (M : Mem) : Option (Int32 × Mem) := if (M.1 18 0 1) < 0 then f_X5_put_19 M else if (M.1 18 0 1) < 48 then lt_ (M.1 18 0 1) (fun x4 => if ¬ (x4 < 0 ∨ 48 ≤ x4.toNatClampNeg) then lt_ (sw M 18 1 x4.toNatClampNeg v1) (fun M5 => lt_ (sw M5 18 0 1 ((M5.1 18 0 1) + (1 : Int32))) (fun M6 => some ((1 : Int32), M6))) else none) else f_X5_put_19 M
set_option maxHeartbeats 4000000 in
set_option maxRecDepth 100000 in
theorem ct_X5_put {g : GT} {l : Launch} {v1 : Int32} {M : Mem} {t : Int32 × Mem} (h : f_X5_put v1 M = some t) : Ct g l 0 yX5_put cX5_put 2 (some .boolean) [.ref (ga g 18 0), .int v1] M (some (.int t.1)) t.2 := by
  refine ct_of (k := 0) (by decide) (Nat.le_of_ble_eq_true rfl) rfl (fun X C hl hr hR => ?_)
  subst hl
  have C : Cx g X cX5_put RX5 2 0 := C
  unfold f_X5_put at h
  refine kj_ald0 (pc := 0) C dX5_put_0 ?_
  refine gf_X5_15 (pc := 1) C dX5_put_1 ?_
  refine kj_if_lt (pc := 4) C dX5_put_4 (tgt := 19) (by decide) (fun c1 => ?_) (fun c1 => ?_)
  · have h := of_pos c1 h
    exact k_X5_put_19 C hr hR  _ _ _ h
  · have h := of_neg c1 h
    refine kj_ald0 (pc := 7) C dX5_put_7 ?_
    refine gf_X5_15 (pc := 8) C dX5_put_8 ?_
    refine kj_ald0 (pc := 11) C dX5_put_11 ?_
    refine gf_X5_9 (pc := 12) C dX5_put_12 ?_
    refine kj_alen2 (pc := 15) C ia_18_1 (v := 48) rfl dX5_put_15 ?_
    refine kj_icmp_lt (pc := 16) C dX5_put_16 (tgt := 21) (by decide) (fun c2 => ?_) (fun c2 => ?_)
    · have h := of_pos c2 h
      refine kj_ald0 (pc := 21) C dX5_put_21 ?_
      refine gf_X5_9 (pc := 22) C dX5_put_22 ?_
      refine kj_ald0 (pc := 25) C dX5_put_25 ?_
      refine gf_X5_15 (pc := 26) C dX5_put_26 ?_
      refine kj_ild1 (pc := 29) C dX5_put_29 ?_
      obtain ⟨x4, ex4, h⟩ := of_lt h
      refine kj_ni2 ex4 ?_
      obtain ⟨c3, h⟩ := of_gd h
      obtain ⟨M5, eM5, h⟩ := of_lt h
      refine kj_iast2 (pc := 30) C ia_18_1 c3 dX5_put_30 ?_
      refine kj_nM eM5 ?_
      refine kj_ald0 (pc := 31) C dX5_put_31 ?_
      refine kj_dup (pc := 32) C dX5_put_32 rfl ?_
      refine gf_X5_15 (pc := 33) C dX5_put_33 ?_
      refine kj_iconst (pc := 36) C (v := 1) dX5_put_36 ci_1 ?_
      refine kj_iadd (pc := 37) C dX5_put_37 ?_
      obtain ⟨M6, eM6, h⟩ := of_lt h
      refine pf_X5_15 (pc := 38) C dX5_put_38 ?_
      refine kj_nM eM6 ?_
      refine kj_iconst (pc := 41) C (v := 1) dX5_put_41 ci_1 ?_
      cases h
      exact kj_zret (pc := 42) C hr (by decide) hR dX5_put_42
    · have h := of_neg c2 h
      exact k_X5_put_19 C hr hR  _ _ _ h
def f_X5_part_16 (M : Mem) (s0 : Int32) : Option (Int32) := some s0
set_option maxHeartbeats 4000000 in
set_option maxRecDepth 100000 in
theorem k_X5_part_16 {g : GT} {X : XT} {M : Mem} {t : Int32} (C : Cx g X cX5_part RX5 1 0) (hr : (xt X).sig.returnType = some .int) (hR : Rt g X (some (.int t)) M) : ∀ (s0 : Int32) (w0 : Option Value), f_X5_part_16 M s0 = some t → Kj g X 1 16 [w0] [.int s0] M := by
  intro s0 w0 h
  unfold f_X5_part_16 at h
  cases h
  exact kj_iret (pc := 16) C hr hR dX5_part_16
def f_X5_part (v0 : Int32) (M : Mem) : Option (Int32) := if 1 ≤ v0 then lt_ (v0 - (1 : Int32)) (fun x2 => f_X5_part_16 M (x2 - x2 / 6 * 6)) else f_X5_part_16 M (-9)
set_option maxHeartbeats 4000000 in
set_option maxRecDepth 100000 in
theorem ct_X5_part {g : GT} {l : Launch} {v0 : Int32} {M : Mem} {t : Int32} (h : f_X5_part v0 M = some t) : Ct g l 0 yX5_part cX5_part 1 (some .int) [.int v0] M (some (.int t)) M := by
  refine ct_of (k := 0) (by decide) (Nat.le_of_ble_eq_true rfl) rfl (fun X C hl hr hR => ?_)
  subst hl
  have C : Cx g X cX5_part RX5 1 0 := C
  unfold f_X5_part at h
  refine kj_ild0 (pc := 0) C dX5_part_0 ?_
  refine kj_iconst (pc := 1) C (v := 1) dX5_part_1 ci_1 ?_
  refine kj_icmp_ge (pc := 2) C dX5_part_2 (tgt := 10) (by decide) (fun c1 => ?_) (fun c1 => ?_)
  · have h := of_pos c1 h
    refine kj_ild0 (pc := 10) C dX5_part_10 ?_
    refine kj_iconst (pc := 11) C (v := 1) dX5_part_11 ci_1 ?_
    refine kj_isub (pc := 12) C dX5_part_12 ?_
    refine kj_bipush (pc := 13) C (v := 6) dX5_part_13 cb_6 ?_
    obtain ⟨x2, ex2, h⟩ := of_lt h
    rw [← ex2]
    refine kj_irem (pc := 15) C dX5_part_15 (by decide) ?_
    exact k_X5_part_16 C hr hR _ _ h
  · have h := of_neg c1 h
    refine kj_bipush (pc := 5) C (v := (-9)) dX5_part_5 cb_m9 ?_
    refine kj_goto (pc := 7) C dX5_part_7 (tgt := 16) (by decide) ?_
    exact k_X5_part_16 C hr hR _ _ h
def f_X9_isWithin_15 (M : Mem) (s0 : Int32) : Option (Int32) := if s0 = 0 ∨ s0 = 1 then some s0 else none
set_option maxHeartbeats 4000000 in
set_option maxRecDepth 100000 in
theorem k_X9_isWithin_15 {g : GT} {X : XT} {M : Mem} {t : Int32} (C : Cx g X cX9_isWithin RX9 3 0) (hr : (xt X).sig.returnType = some .boolean) (hR : Rt g X (some (.int t)) M) : ∀ (s0 : Int32) (w0 w1 w2 : Option Value), f_X9_isWithin_15 M s0 = some t → Kj g X 3 15 [w0, w1, w2] [.int s0] M := by
  intro s0 w0 w1 w2 h
  unfold f_X9_isWithin_15 at h
  obtain ⟨c1, h⟩ := of_gd h
  cases h
  exact kj_zret (pc := 15) C hr c1 hR dX9_isWithin_15
def f_X9_isWithin_14 (M : Mem) : Option (Int32) := f_X9_isWithin_15 M 0
set_option maxHeartbeats 4000000 in
set_option maxRecDepth 100000 in
theorem k_X9_isWithin_14 {g : GT} {X : XT} {M : Mem} {t : Int32} (C : Cx g X cX9_isWithin RX9 3 0) (hr : (xt X).sig.returnType = some .boolean) (hR : Rt g X (some (.int t)) M) : ∀ (w0 w1 w2 : Option Value), f_X9_isWithin_14 M = some t → Kj g X 3 14 [w0, w1, w2] [] M := by
  intro w0 w1 w2 h
  unfold f_X9_isWithin_14 at h
  refine kj_iconst (pc := 14) C (v := 0) dX9_isWithin_14 ci_0 ?_
  exact k_X9_isWithin_15 C hr hR _ _ _ _ h
def f_X9_isWithin (v0 : Int32) (v1 : Int32) (v2 : Int32) (M : Mem) : Option (Int32) := if v0 < v1 then f_X9_isWithin_14 M else if v2 < v0 then f_X9_isWithin_14 M else f_X9_isWithin_15 M 1
set_option maxHeartbeats 4000000 in
set_option maxRecDepth 100000 in
theorem ct_X9_isWithin {g : GT} {l : Launch} {v0 : Int32} {v1 : Int32} {v2 : Int32} {M : Mem} {t : Int32} (h : f_X9_isWithin v0 v1 v2 M = some t) : Ct g l 0 yX9_isWithin cX9_isWithin 3 (some .boolean) [.int v0, .int v1, .int v2] M (some (.int t)) M := by
  refine ct_of (k := 0) (by decide) (Nat.le_of_ble_eq_true rfl) rfl (fun X C hl hr hR => ?_)
  subst hl
  have C : Cx g X cX9_isWithin RX9 3 0 := C
  unfold f_X9_isWithin at h
  refine kj_ild0 (pc := 0) C dX9_isWithin_0 ?_
  refine kj_ild1 (pc := 1) C dX9_isWithin_1 ?_
  refine kj_icmp_lt (pc := 2) C dX9_isWithin_2 (tgt := 14) (by decide) (fun c1 => ?_) (fun c1 => ?_)
  · have h := of_pos c1 h
    exact k_X9_isWithin_14 C hr hR  _ _ _ h
  · have h := of_neg c1 h
    refine kj_ild0 (pc := 5) C dX9_isWithin_5 ?_
    refine kj_ild2 (pc := 6) C dX9_isWithin_6 ?_
    refine kj_icmp_gt (pc := 7) C dX9_isWithin_7 (tgt := 14) (by decide) (fun c2 => ?_) (fun c2 => ?_)
    · have h := of_pos c2 h
      exact k_X9_isWithin_14 C hr hR  _ _ _ h
    · have h := of_neg c2 h
      refine kj_iconst (pc := 10) C (v := 1) dX9_isWithin_10 ci_1 ?_
      refine kj_goto (pc := 11) C dX9_isWithin_11 (tgt := 15) (by decide) ?_
      exact k_X9_isWithin_15 C hr hR _ _ _ _ h
