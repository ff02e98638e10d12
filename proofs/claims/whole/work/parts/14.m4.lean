def f_X9_singer_158 (M : Mem) (s0 : Int32) : Option (Int32) := some s0
set_option maxHeartbeats 4000000 in
set_option maxRecDepth 100000 in
theorem k_X9_singer_158 {g : GT} {X : XT} {M : Mem} {t : Int32} (C : Cx g X cX9_singer RX9 3 2) (hr : (xt X).sig.returnType = some .int) (hR : Rt g X (some (.int t)) M) : ∀ (s0 : Int32) (w0 w1 w2 : Option Value), f_X9_singer_158 M s0 = some t → Kj g X 3 158 [w0, w1, w2] [.int s0] M := by
  intro s0 w0 w1 w2 h
  unfold f_X9_singer_158 at h
  cases h
  exact kj_iret (pc := 158) C hr hR dX9_singer_158
def f_X9_singer (v1 : Int32) (v2 : Int32) (M : Mem) : Option (Int32) := (f_X7_isThere 0 v1 M).bind (fun q1 => if q1 = 0 then some ((-1) : Int32) else if v2 = 0 then if ¬ (v1 < 0 ∨ 6 ≤ v1.toNatClampNeg) then some (M.1 0 1 v1.toNatClampNeg) else none else if v2 = 1 then if ¬ (v1 < 0 ∨ 6 ≤ v1.toNatClampNeg) then some (M.1 19 1 v1.toNatClampNeg) else none else if v2 = 2 then if ¬ (v1 < 0 ∨ 6 ≤ v1.toNatClampNeg) then some (M.1 19 2 v1.toNatClampNeg) else none else if v2 = 3 then if ¬ (v1 < 0 ∨ 6 ≤ v1.toNatClampNeg) then some (M.1 0 2 v1.toNatClampNeg) else none else if v2 = 4 then if ¬ (v1 < 0 ∨ 6 ≤ v1.toNatClampNeg) then some (M.1 19 3 v1.toNatClampNeg) else none else if v2 = 5 then if ¬ (v1 < 0 ∨ 6 ≤ v1.toNatClampNeg) then some (M.1 0 3 v1.toNatClampNeg) else none else if v2 = 6 then (f_X7_seenBy 0 v1 M).bind (fun q15 => some q15) else if v2 = 7 then (f_X7_enviedBy 0 v1 M).bind (fun q17 => some q17) else if v2 = 8 then (f_X7_isHeldOn 0 v1 M).bind (fun q19 => if q19 = 0 then f_X9_singer_158 M 0 else f_X9_singer_158 M 1) else some ((-2) : Int32))
set_option maxHeartbeats 4000000 in
set_option maxRecDepth 100000 in
theorem ct_X9_singer {g : GT} {l : Launch} {v1 : Int32} {v2 : Int32} {M : Mem} {t : Int32} (h : f_X9_singer v1 v2 M = some t) : Ct g l 2 yX9_singer cX9_singer 3 (some .int) [.ref (ga g 20 0), .int v1, .int v2] M (some (.int t)) M := by
  refine ct_of (k := 0) (by decide) (Nat.le_of_ble_eq_true rfl) rfl (fun X C hl hr hR => ?_)
  subst hl
  have C : Cx g X cX9_singer RX9 3 2 := C
  unfold f_X9_singer at h
  refine kj_ald0 (pc := 0) C dX9_singer_0 ?_
  refine gf_X9_28 (pc := 1) C dX9_singer_1 ?_
  refine kj_ild1 (pc := 4) C dX9_singer_4 ?_
  obtain ⟨q1, eq1, h⟩ := of_bind h
  refine kj_callVN1 (pc := 5) C (ct_X7_isThere h18_0 eq1) (Nat.le_of_ble_eq_true rfl) mi_X7_isThere ml_X9_104 (rc_st h18_0) rfl rfl ar1 (Nat.le_of_ble_eq_true rfl) dX9_singer_5 ?_
  refine kj_if_ne (pc := 8) C dX9_singer_8 (tgt := 13) (by decide) (fun c2 => ?_) (fun c2 => ?_)
  · have h := of_neg c2 h
    refine kj_ild2 (pc := 13) C dX9_singer_13 ?_
    rcases Classical.em (v2 = 0) with c4 | c4
    · have h := of_pos c4 h
      refine kj_tsIn (pc := 14) C (off := 50) (tgt := 64) dX9_singer_14 (by rw [c4]; decide) (by rw [c4]; decide) (by rw [c4]; decide) (by decide) ?_
      refine kj_ald0 (pc := 64) C dX9_singer_64 ?_
      refine gf_X9_28 (pc := 65) C dX9_singer_65 ?_
      refine gf_X9_107 (pc := 68) C h18_0 dX9_singer_68 ?_
      refine kj_ild1 (pc := 71) C dX9_singer_71 ?_
      obtain ⟨c3, h⟩ := of_gd h
      refine kj_iald2 (pc := 72) C (ia_st h18_0 ⟨by decide, by decide⟩) c3 dX9_singer_72 ?_
      cases h
      exact kj_iret (pc := 73) C hr hR dX9_singer_73
    · have h := of_neg c4 h
      rcases Classical.em (v2 = 1) with c6 | c6
      · have h := of_pos c6 h
        refine kj_tsIn (pc := 14) C (off := 60) (tgt := 74) dX9_singer_14 (by rw [c6]; decide) (by rw [c6]; decide) (by rw [c6]; decide) (by decide) ?_
        refine kj_ald0 (pc := 74) C dX9_singer_74 ?_
        refine gf_X9_19 (pc := 75) C dX9_singer_75 ?_
        refine gf_X9_111 (pc := 78) C dX9_singer_78 ?_
        refine kj_ild1 (pc := 81) C dX9_singer_81 ?_
        obtain ⟨c5, h⟩ := of_gd h
        refine kj_iald2 (pc := 82) C ia_19_1 c5 dX9_singer_82 ?_
        cases h
        exact kj_iret (pc := 83) C hr hR dX9_singer_83
      · have h := of_neg c6 h
        rcases Classical.em (v2 = 2) with c8 | c8
        · have h := of_pos c8 h
          refine kj_tsIn (pc := 14) C (off := 70) (tgt := 84) dX9_singer_14 (by rw [c8]; decide) (by rw [c8]; decide) (by rw [c8]; decide) (by decide) ?_
          refine kj_ald0 (pc := 84) C dX9_singer_84 ?_
          refine gf_X9_19 (pc := 85) C dX9_singer_85 ?_
          refine gf_X9_114 (pc := 88) C dX9_singer_88 ?_
          refine kj_ild1 (pc := 91) C dX9_singer_91 ?_
          obtain ⟨c7, h⟩ := of_gd h
          refine kj_iald2 (pc := 92) C ia_19_2 c7 dX9_singer_92 ?_
          cases h
          exact kj_iret (pc := 93) C hr hR dX9_singer_93
        · have h := of_neg c8 h
          rcases Classical.em (v2 = 3) with c10 | c10
          · have h := of_pos c10 h
            refine kj_tsIn (pc := 14) C (off := 80) (tgt := 94) dX9_singer_14 (by rw [c10]; decide) (by rw [c10]; decide) (by rw [c10]; decide) (by decide) ?_
            refine kj_ald0 (pc := 94) C dX9_singer_94 ?_
            refine gf_X9_28 (pc := 95) C dX9_singer_95 ?_
            refine gf_X9_117 (pc := 98) C h18_0 dX9_singer_98 ?_
            refine kj_ild1 (pc := 101) C dX9_singer_101 ?_
            obtain ⟨c9, h⟩ := of_gd h
            refine kj_iald2 (pc := 102) C (ia_st h18_0 ⟨by decide, by decide⟩) c9 dX9_singer_102 ?_
            cases h
            exact kj_iret (pc := 103) C hr hR dX9_singer_103
          · have h := of_neg c10 h
            rcases Classical.em (v2 = 4) with c12 | c12
            · have h := of_pos c12 h
              refine kj_tsIn (pc := 14) C (off := 90) (tgt := 104) dX9_singer_14 (by rw [c12]; decide) (by rw [c12]; decide) (by rw [c12]; decide) (by decide) ?_
              refine kj_ald0 (pc := 104) C dX9_singer_104 ?_
              refine gf_X9_19 (pc := 105) C dX9_singer_105 ?_
              refine gf_X9_120 (pc := 108) C dX9_singer_108 ?_
              refine kj_ild1 (pc := 111) C dX9_singer_111 ?_
              obtain ⟨c11, h⟩ := of_gd h
              refine kj_iald2 (pc := 112) C ia_19_3 c11 dX9_singer_112 ?_
              cases h
              exact kj_iret (pc := 113) C hr hR dX9_singer_113
            · have h := of_neg c12 h
              rcases Classical.em (v2 = 5) with c14 | c14
              · have h := of_pos c14 h
                refine kj_tsIn (pc := 14) C (off := 100) (tgt := 114) dX9_singer_14 (by rw [c14]; decide) (by rw [c14]; decide) (by rw [c14]; decide) (by decide) ?_
                refine kj_ald0 (pc := 114) C dX9_singer_114 ?_
                refine gf_X9_28 (pc := 115) C dX9_singer_115 ?_
                refine gf_X9_123 (pc := 118) C h18_0 dX9_singer_118 ?_
                refine kj_ild1 (pc := 121) C dX9_singer_121 ?_
                obtain ⟨c13, h⟩ := of_gd h
                refine kj_iald2 (pc := 122) C (ia_st h18_0 ⟨by decide, by decide⟩) c13 dX9_singer_122 ?_
                cases h
                exact kj_iret (pc := 123) C hr hR dX9_singer_123
              · have h := of_neg c14 h
                rcases Classical.em (v2 = 6) with c16 | c16
                · have h := of_pos c16 h
                  refine kj_tsIn (pc := 14) C (off := 110) (tgt := 124) dX9_singer_14 (by rw [c16]; decide) (by rw [c16]; decide) (by rw [c16]; decide) (by decide) ?_
                  refine kj_ald0 (pc := 124) C dX9_singer_124 ?_
                  refine gf_X9_28 (pc := 125) C dX9_singer_125 ?_
                  refine kj_ild1 (pc := 128) C dX9_singer_128 ?_
                  obtain ⟨q15, eq15, h⟩ := of_bind h
                  refine kj_callVN1 (pc := 129) C (ct_X7_seenBy h18_0 eq15) (Nat.le_of_ble_eq_true rfl) mi_X7_seenBy ml_X9_126 (rc_st h18_0) rfl rfl ar1 (Nat.le_of_ble_eq_true rfl) dX9_singer_129 ?_
                  cases h
                  exact kj_iret (pc := 132) C hr hR dX9_singer_132
                · have h := of_neg c16 h
                  rcases Classical.em (v2 = 7) with c18 | c18
                  · have h := of_pos c18 h
                    refine kj_tsIn (pc := 14) C (off := 119) (tgt := 133) dX9_singer_14 (by rw [c18]; decide) (by rw [c18]; decide) (by rw [c18]; decide) (by decide) ?_
                    refine kj_ald0 (pc := 133) C dX9_singer_133 ?_
                    refine gf_X9_28 (pc := 134) C dX9_singer_134 ?_
                    refine kj_ild1 (pc := 137) C dX9_singer_137 ?_
                    obtain ⟨q17, eq17, h⟩ := of_bind h
                    refine kj_callVN1 (pc := 138) C (ct_X7_enviedBy h18_0 eq17) (Nat.le_of_ble_eq_true rfl) mi_X7_enviedBy ml_X9_130 (rc_st h18_0) rfl rfl ar1 (Nat.le_of_ble_eq_true rfl) dX9_singer_138 ?_
                    cases h
                    exact kj_iret (pc := 141) C hr hR dX9_singer_141
                  · have h := of_neg c18 h
                    rcases Classical.em (v2 = 8) with c21 | c21
                    · have h := of_pos c21 h
                      refine kj_tsIn (pc := 14) C (off := 128) (tgt := 142) dX9_singer_14 (by rw [c21]; decide) (by rw [c21]; decide) (by rw [c21]; decide) (by decide) ?_
                      refine kj_ald0 (pc := 142) C dX9_singer_142 ?_
                      refine gf_X9_28 (pc := 143) C dX9_singer_143 ?_
                      refine kj_ild1 (pc := 146) C dX9_singer_146 ?_
                      obtain ⟨q19, eq19, h⟩ := of_bind h
                      refine kj_callVN1 (pc := 147) C (ct_X7_isHeldOn h18_0 eq19) (Nat.le_of_ble_eq_true rfl) mi_X7_isHeldOn ml_X9_133 (rc_st h18_0) rfl rfl ar1 (Nat.le_of_ble_eq_true rfl) dX9_singer_147 ?_
                      refine kj_if_eq (pc := 150) C dX9_singer_150 (tgt := 157) (by decide) (fun c20 => ?_) (fun c20 => ?_)
                      · have h := of_pos c20 h
                        refine kj_iconst (pc := 157) C (v := 0) dX9_singer_157 ci_0 ?_
                        exact k_X9_singer_158 C hr hR _ _ _ _ h
                      · have h := of_neg c20 h
                        refine kj_iconst (pc := 153) C (v := 1) dX9_singer_153 ci_1 ?_
                        refine kj_goto (pc := 154) C dX9_singer_154 (tgt := 158) (by decide) ?_
                        exact k_X9_singer_158 C hr hR _ _ _ _ h
                    · have h := of_neg c21 h
                      refine kj_tsOut (pc := 14) C (tgt := 159) dX9_singer_14 (ts_out8 c4 c6 c8 c10 c12 c14 c16 c18 c21) (by decide) ?_
                      refine kj_bipush (pc := 159) C (v := (-2)) dX9_singer_159 cb_m2 ?_
                      cases h
                      exact kj_iret (pc := 161) C hr hR dX9_singer_161
  · have h := of_pos c2 h
    refine kj_iconst (pc := 11) C (v := (-1)) dX9_singer_11 ci_m1 ?_
    cases h
    exact kj_iret (pc := 12) C hr hR dX9_singer_12
def f_X9_seat_22 (M : Mem) (s0 : Int32) : Option (Int32) := some s0
set_option maxHeartbeats 4000000 in
set_option maxRecDepth 100000 in
theorem k_X9_seat_22 {g : GT} {X : XT} {M : Mem} {t : Int32} (C : Cx g X cX9_seat RX9 2 2) (hr : (xt X).sig.returnType = some .int) (hR : Rt g X (some (.int t)) M) : ∀ (s0 : Int32) (w0 w1 : Option Value), f_X9_seat_22 M s0 = some t → Kj g X 2 22 [w0, w1] [.int s0] M := by
  intro s0 w0 w1 h
  unfold f_X9_seat_22 at h
  cases h
  exact kj_iret (pc := 22) C hr hR dX9_seat_22
def f_X9_seat (v1 : Int32) (M : Mem) : Option (Int32) := (f_X9_isWithin v1 0 7 M).bind (fun q1 => if q1 = 0 then f_X9_seat_22 M (-1) else (f_X7_whoIsAt 0 v1 M).bind (fun q3 => f_X9_seat_22 M q3))
set_option maxHeartbeats 4000000 in
set_option maxRecDepth 100000 in
theorem ct_X9_seat {g : GT} {l : Launch} {v1 : Int32} {M : Mem} {t : Int32} (h : f_X9_seat v1 M = some t) : Ct g l 2 yX9_seat cX9_seat 2 (some .int) [.ref (ga g 20 0), .int v1] M (some (.int t)) M := by
  refine ct_of (k := 0) (by decide) (Nat.le_of_ble_eq_true rfl) rfl (fun X C hl hr hR => ?_)
  subst hl
  have C : Cx g X cX9_seat RX9 2 2 := C
  unfold f_X9_seat at h
  refine kj_ild1 (pc := 0) C dX9_seat_0 ?_
  refine kj_iconst (pc := 1) C (v := 0) dX9_seat_1 ci_0 ?_
  refine kj_bipush (pc := 2) C (v := 7) dX9_seat_2 cb_7 ?_
  obtain ⟨q1, eq1, h⟩ := of_bind h
  refine kj_callS1 (pc := 4) C (ct_X9_isWithin eq1) (Nat.le_of_ble_eq_true rfl) mi_X9_isWithin ml_X9_136 rfl as3 (Nat.le_of_ble_eq_true rfl) dX9_seat_4 ?_
  refine kj_if_eq (pc := 7) C dX9_seat_7 (tgt := 21) (by decide) (fun c2 => ?_) (fun c2 => ?_)
  · have h := of_pos c2 h
    refine kj_iconst (pc := 21) C (v := (-1)) dX9_seat_21 ci_m1 ?_
    exact k_X9_seat_22 C hr hR _ _ _ h
  · have h := of_neg c2 h
    refine kj_ald0 (pc := 10) C dX9_seat_10 ?_
    refine gf_X9_28 (pc := 11) C dX9_seat_11 ?_
    refine kj_ild1 (pc := 14) C dX9_seat_14 ?_
    obtain ⟨q3, eq3, h⟩ := of_bind h
    refine kj_callVN1 (pc := 15) C (ct_X7_whoIsAt h18_0 eq3) (Nat.le_of_ble_eq_true rfl) mi_X7_whoIsAt ml_X9_140 (rc_st h18_0) rfl rfl ar1 (Nat.le_of_ble_eq_true rfl) dX9_seat_15 ?_
    refine kj_goto (pc := 18) C dX9_seat_18 (tgt := 22) (by decide) ?_
    exact k_X9_seat_22 C hr hR _ _ _ h
def f_X9_bar (M : Mem) : Option (Int32 × Mem) := (f_X0_remember 0 M).bind (fun q1 => (f_X7_goOn 0 1 q1).bind (fun q2 => lt_ (sw q2 0 0 7 ((q2.1 0 0 7) + (1 : Int32))) (fun M3 => (f_X7_richness 0 M3).bind (fun q4 => some (q4, M3)))))
set_option maxHeartbeats 4000000 in
set_option maxRecDepth 100000 in
theorem ct_X9_bar {g : GT} {l : Launch} {M : Mem} {t : Int32 × Mem} (h : f_X9_bar M = some t) : Ct g l 4 yX9_bar cX9_bar 1 (some .int) [.ref (ga g 20 0)] M (some (.int t.1)) t.2 := by
  refine ct_of (k := 0) (by decide) (Nat.le_of_ble_eq_true rfl) rfl (fun X C hl hr hR => ?_)
  subst hl
  have C : Cx g X cX9_bar RX9 1 4 := C
  unfold f_X9_bar at h
  refine kj_ald0 (pc := 0) C dX9_bar_0 ?_
  refine gf_X9_38 (pc := 1) C dX9_bar_1 ?_
  refine kj_ald0 (pc := 4) C dX9_bar_4 ?_
  refine gf_X9_28 (pc := 5) C dX9_bar_5 ?_
  obtain ⟨q1, eq1, h⟩ := of_bind h
  refine kj_callVN0 (pc := 8) C (ct_X0_remember h18_0 eq1) (Nat.le_of_ble_eq_true rfl) mi_X0_remember ml_X9_143 rc_21 rfl rfl ar1 (Nat.le_of_ble_eq_true rfl) dX9_bar_8 ?_
  refine kj_ald0 (pc := 11) C dX9_bar_11 ?_
  refine gf_X9_28 (pc := 12) C dX9_bar_12 ?_
  refine kj_iconst (pc := 15) C (v := 1) dX9_bar_15 ci_1 ?_
  obtain ⟨q2, eq2, h⟩ := of_bind h
  refine kj_callVN0 (pc := 16) C (ct_X7_goOn h18_0 eq2) (Nat.le_of_ble_eq_true rfl) mi_X7_goOn ml_X9_147 (rc_st h18_0) rfl rfl ar1 (Nat.le_of_ble_eq_true rfl) dX9_bar_16 ?_
  refine kj_ald0 (pc := 19) C dX9_bar_19 ?_
  refine gf_X9_28 (pc := 20) C dX9_bar_20 ?_
  refine kj_dup (pc := 23) C dX9_bar_23 rfl ?_
  refine gf_X9_151 (pc := 24) C h18_0 dX9_bar_24 ?_
  refine kj_iconst (pc := 27) C (v := 1) dX9_bar_27 ci_1 ?_
  refine kj_iadd (pc := 28) C dX9_bar_28 ?_
  obtain ⟨M3, eM3, h⟩ := of_lt h
  refine pf_X9_151 (pc := 29) C h18_0 dX9_bar_29 ?_
  refine kj_nM eM3 ?_
  refine kj_ald0 (pc := 32) C dX9_bar_32 ?_
  refine gf_X9_28 (pc := 33) C dX9_bar_33 ?_
  obtain ⟨q4, eq4, h⟩ := of_bind h
  refine kj_callVN1 (pc := 36) C (ct_X7_richness h18_0 eq4) (Nat.le_of_ble_eq_true rfl) mi_X7_richness ml_X9_154 (rc_st h18_0) rfl rfl ar0 (Nat.le_of_ble_eq_true rfl) dX9_bar_36 ?_
  cases h
  exact kj_iret (pc := 39) C hr hR dX9_bar_39
def f_X9_gift (v1 : Int32) (v2 : Int32) (M : Mem) : Option (Int32 × Mem) := (f_X7_isThere 0 v1 M).bind (fun q1 => if q1 = 0 then some (((-1) : Int32), M) else (f_X9_isWithin v2 1 9 M).bind (fun q3 => if q3 = 0 then some (((-2) : Int32), M) else (f_X0_remember 0 M).bind (fun q5 => (f_X7_give 0 v1 v2 q5).bind (fun q6 => if ¬ (v1 < 0 ∨ 6 ≤ v1.toNatClampNeg) then some (q6.1 0 2 v1.toNatClampNeg, q6) else none))))
set_option maxHeartbeats 4000000 in
set_option maxRecDepth 100000 in
theorem ct_X9_gift {g : GT} {l : Launch} {v1 : Int32} {v2 : Int32} {M : Mem} {t : Int32 × Mem} (h : f_X9_gift v1 v2 M = some t) : Ct g l 4 yX9_gift cX9_gift 3 (some .int) [.ref (ga g 20 0), .int v1, .int v2] M (some (.int t.1)) t.2 := by
  refine ct_of (k := 0) (by decide) (Nat.le_of_ble_eq_true rfl) rfl (fun X C hl hr hR => ?_)
  subst hl
  have C : Cx g X cX9_gift RX9 3 4 := C
  unfold f_X9_gift at h
  refine kj_ald0 (pc := 0) C dX9_gift_0 ?_
  refine gf_X9_28 (pc := 1) C dX9_gift_1 ?_
  refine kj_ild1 (pc := 4) C dX9_gift_4 ?_
  obtain ⟨q1, eq1, h⟩ := of_bind h
  refine kj_callVN1 (pc := 5) C (ct_X7_isThere h18_0 eq1) (Nat.le_of_ble_eq_true rfl) mi_X7_isThere ml_X9_104 (rc_st h18_0) rfl rfl ar1 (Nat.le_of_ble_eq_true rfl) dX9_gift_5 ?_
  refine kj_if_ne (pc := 8) C dX9_gift_8 (tgt := 13) (by decide) (fun c2 => ?_) (fun c2 => ?_)
  · have h := of_neg c2 h
    refine kj_ild2 (pc := 13) C dX9_gift_13 ?_
    refine kj_iconst (pc := 14) C (v := 1) dX9_gift_14 ci_1 ?_
    refine kj_bipush (pc := 15) C (v := 9) dX9_gift_15 cb_9 ?_
    obtain ⟨q3, eq3, h⟩ := of_bind h
    refine kj_callS1 (pc := 17) C (ct_X9_isWithin eq3) (Nat.le_of_ble_eq_true rfl) mi_X9_isWithin ml_X9_136 rfl as3 (Nat.le_of_ble_eq_true rfl) dX9_gift_17 ?_
    refine kj_if_ne (pc := 20) C dX9_gift_20 (tgt := 26) (by decide) (fun c4 => ?_) (fun c4 => ?_)
    · have h := of_neg c4 h
      refine kj_ald0 (pc := 26) C dX9_gift_26 ?_
      refine gf_X9_38 (pc := 27) C dX9_gift_27 ?_
      refine kj_ald0 (pc := 30) C dX9_gift_30 ?_
      refine gf_X9_28 (pc := 31) C dX9_gift_31 ?_
      obtain ⟨q5, eq5, h⟩ := of_bind h
      refine kj_callVN0 (pc := 34) C (ct_X0_remember h18_0 eq5) (Nat.le_of_ble_eq_true rfl) mi_X0_remember ml_X9_143 rc_21 rfl rfl ar1 (Nat.le_of_ble_eq_true rfl) dX9_gift_34 ?_
      refine kj_ald0 (pc := 37) C dX9_gift_37 ?_
      refine gf_X9_28 (pc := 38) C dX9_gift_38 ?_
      refine kj_ild1 (pc := 41) C dX9_gift_41 ?_
      refine kj_ild2 (pc := 42) C dX9_gift_42 ?_
      obtain ⟨q6, eq6, h⟩ := of_bind h
      refine kj_callVN0 (pc := 43) C (ct_X7_give h18_0 eq6) (Nat.le_of_ble_eq_true rfl) mi_X7_give ml_X9_157 (rc_st h18_0) rfl rfl ar2 (Nat.le_of_ble_eq_true rfl) dX9_gift_43 ?_
      refine kj_ald0 (pc := 46) C dX9_gift_46 ?_
      refine gf_X9_28 (pc := 47) C dX9_gift_47 ?_
      refine gf_X9_117 (pc := 50) C h18_0 dX9_gift_50 ?_
      refine kj_ild1 (pc := 53) C dX9_gift_53 ?_
      obtain ⟨c7, h⟩ := of_gd h
      refine kj_iald2 (pc := 54) C (ia_st h18_0 ⟨by decide, by decide⟩) c7 dX9_gift_54 ?_
      cases h
      exact kj_iret (pc := 55) C hr hR dX9_gift_55
    · have h := of_pos c4 h
      refine kj_bipush (pc := 23) C (v := (-2)) dX9_gift_23 cb_m2 ?_
      cases h
      exact kj_iret (pc := 25) C hr hR dX9_gift_25
  · have h := of_pos c2 h
    refine kj_iconst (pc := 11) C (v := (-1)) dX9_gift_11 ci_m1 ?_
    cases h
    exact kj_iret (pc := 12) C hr hR dX9_gift_12
def f_X9_change_22 (M : Mem) : Option (Int32 × Mem) := some (((-1) : Int32), M)
set_option maxHeartbeats 4000000 in
set_option maxRecDepth 100000 in
theorem k_X9_change_22 {g : GT} {X : XT} {t : Int32 × Mem} (C : Cx g X cX9_change RX9 3 4) (hr : (xt X).sig.returnType = some .int) (hR : Rt g X (some (.int t.1)) t.2) : ∀ (M : Mem) (w0 w1 w2 : Option Value), f_X9_change_22 M = some t → Kj g X 3 22 [w0, w1, w2] [] M := by
  intro M w0 w1 w2 h
  unfold f_X9_change_22 at h
  refine kj_iconst (pc := 22) C (v := (-1)) dX9_change_22 ci_m1 ?_
  cases h
  exact kj_iret (pc := 23) C hr hR dX9_change_23
def f_X9_change (v1 : Int32) (v2 : Int32) (M : Mem) : Option (Int32 × Mem) := (f_X7_isThere 0 v1 M).bind (fun q1 => if q1 = 0 then f_X9_change_22 M else (f_X7_isThere 0 v2 M).bind (fun q3 => if q3 = 0 then f_X9_change_22 M else if v1 = v2 then some (((-2) : Int32), M) else (f_X0_remember 0 M).bind (fun q6 => (f_X7_swapSeats 0 v1 v2 q6).bind (fun q7 => if ¬ (v1 < 0 ∨ 6 ≤ v1.toNatClampNeg) then some (q7.1 0 1 v1.toNatClampNeg, q7) else none))))
set_option maxHeartbeats 4000000 in
set_option maxRecDepth 100000 in
theorem ct_X9_change {g : GT} {l : Launch} {v1 : Int32} {v2 : Int32} {M : Mem} {t : Int32 × Mem} (h : f_X9_change v1 v2 M = some t) : Ct g l 4 yX9_change cX9_change 3 (some .int) [.ref (ga g 20 0), .int v1, .int v2] M (some (.int t.1)) t.2 := by
  refine ct_of (k := 0) (by decide) (Nat.le_of_ble_eq_true rfl) rfl (fun X C hl hr hR => ?_)
  subst hl
  have C : Cx g X cX9_change RX9 3 4 := C
  unfold f_X9_change at h
  refine kj_ald0 (pc := 0) C dX9_change_0 ?_
  refine gf_X9_28 (pc := 1) C dX9_change_1 ?_
  refine kj_ild1 (pc := 4) C dX9_change_4 ?_
  obtain ⟨q1, eq1, h⟩ := of_bind h
  refine kj_callVN1 (pc := 5) C (ct_X7_isThere h18_0 eq1) (Nat.le_of_ble_eq_true rfl) mi_X7_isThere ml_X9_104 (rc_st h18_0) rfl rfl ar1 (Nat.le_of_ble_eq_true rfl) dX9_change_5 ?_
  refine kj_if_eq (pc := 8) C dX9_change_8 (tgt := 22) (by decide) (fun c2 => ?_) (fun c2 => ?_)
  · have h := of_pos c2 h
    exact k_X9_change_22 C hr hR  _ _ _ _ h
  · have h := of_neg c2 h
    refine kj_ald0 (pc := 11) C dX9_change_11 ?_
    refine gf_X9_28 (pc := 12) C dX9_change_12 ?_
    refine kj_ild2 (pc := 15) C dX9_change_15 ?_
    obtain ⟨q3, eq3, h⟩ := of_bind h
    refine kj_callVN1 (pc := 16) C (ct_X7_isThere h18_0 eq3) (Nat.le_of_ble_eq_true rfl) mi_X7_isThere ml_X9_104 (rc_st h18_0) rfl rfl ar1 (Nat.le_of_ble_eq_true rfl) dX9_change_16 ?_
    refine kj_if_ne (pc := 19) C dX9_change_19 (tgt := 24) (by decide) (fun c4 => ?_) (fun c4 => ?_)
    · have h := of_neg c4 h
      refine kj_ild1 (pc := 24) C dX9_change_24 ?_
      refine kj_ild2 (pc := 25) C dX9_change_25 ?_
      refine kj_icmp_ne (pc := 26) C dX9_change_26 (tgt := 32) (by decide) (fun c5 => ?_) (fun c5 => ?_)
      · have h := of_neg c5 h
        refine kj_ald0 (pc := 32) C dX9_change_32 ?_
        refine gf_X9_38 (pc := 33) C dX9_change_33 ?_
        refine kj_ald0 (pc := 36) C dX9_change_36 ?_
        refine gf_X9_28 (pc := 37) C dX9_change_37 ?_
        obtain ⟨q6, eq6, h⟩ := of_bind h
        refine kj_callVN0 (pc := 40) C (ct_X0_remember h18_0 eq6) (Nat.le_of_ble_eq_true rfl) mi_X0_remember ml_X9_143 rc_21 rfl rfl ar1 (Nat.le_of_ble_eq_true rfl) dX9_change_40 ?_
        refine kj_ald0 (pc := 43) C dX9_change_43 ?_
        refine gf_X9_28 (pc := 44) C dX9_change_44 ?_
        refine kj_ild1 (pc := 47) C dX9_change_47 ?_
        refine kj_ild2 (pc := 48) C dX9_change_48 ?_
        obtain ⟨q7, eq7, h⟩ := of_bind h
        refine kj_callVN0 (pc := 49) C (ct_X7_swapSeats h18_0 eq7) (Nat.le_of_ble_eq_true rfl) mi_X7_swapSeats ml_X9_161 (rc_st h18_0) rfl rfl ar2 (Nat.le_of_ble_eq_true rfl) dX9_change_49 ?_
        refine kj_ald0 (pc := 52) C dX9_change_52 ?_
        refine gf_X9_28 (pc := 53) C dX9_change_53 ?_
        refine gf_X9_107 (pc := 56) C h18_0 dX9_change_56 ?_
        refine kj_ild1 (pc := 59) C dX9_change_59 ?_
        obtain ⟨c8, h⟩ := of_gd h
        refine kj_iald2 (pc := 60) C (ia_st h18_0 ⟨by decide, by decide⟩) c8 dX9_change_60 ?_
        cases h
        exact kj_iret (pc := 61) C hr hR dX9_change_61
      · have h := of_pos c5 h
        refine kj_bipush (pc := 29) C (v := (-2)) dX9_change_29 cb_m2 ?_
        cases h
        exact kj_iret (pc := 31) C hr hR dX9_change_31
    · have h := of_pos c4 h
      exact k_X9_change_22 C hr hR  _ _ _ _ h
def f_X9_pitch (M : Mem) : Option (Int32 × Mem) := (f_X0_remember 0 M).bind (fun q1 => (f_X7_takeVoices 0 q1).bind (fun q2 => (f_X7_richness 0 q2).bind (fun q3 => some (q3, q2))))
set_option maxHeartbeats 4000000 in
set_option maxRecDepth 100000 in
theorem ct_X9_pitch {g : GT} {l : Launch} {M : Mem} {t : Int32 × Mem} (h : f_X9_pitch M = some t) : Ct g l 4 yX9_pitch cX9_pitch 1 (some .int) [.ref (ga g 20 0)] M (some (.int t.1)) t.2 := by
  refine ct_of (k := 0) (by decide) (Nat.le_of_ble_eq_true rfl) rfl (fun X C hl hr hR => ?_)
  subst hl
  have C : Cx g X cX9_pitch RX9 1 4 := C
  unfold f_X9_pitch at h
  refine kj_ald0 (pc := 0) C dX9_pitch_0 ?_
  refine gf_X9_38 (pc := 1) C dX9_pitch_1 ?_
  refine kj_ald0 (pc := 4) C dX9_pitch_4 ?_
  refine gf_X9_28 (pc := 5) C dX9_pitch_5 ?_
  obtain ⟨q1, eq1, h⟩ := of_bind h
  refine kj_callVN0 (pc := 8) C (ct_X0_remember h18_0 eq1) (Nat.le_of_ble_eq_true rfl) mi_X0_remember ml_X9_143 rc_21 rfl rfl ar1 (Nat.le_of_ble_eq_true rfl) dX9_pitch_8 ?_
  refine kj_ald0 (pc := 11) C dX9_pitch_11 ?_
  refine gf_X9_28 (pc := 12) C dX9_pitch_12 ?_
  obtain ⟨q2, eq2, h⟩ := of_bind h
  refine kj_callVN0 (pc := 15) C (ct_X7_takeVoices h18_0 eq2) (Nat.le_of_ble_eq_true rfl) mi_X7_takeVoices ml_X9_164 (rc_st h18_0) rfl rfl ar0 (Nat.le_of_ble_eq_true rfl) dX9_pitch_15 ?_
  refine kj_ald0 (pc := 18) C dX9_pitch_18 ?_
  refine gf_X9_28 (pc := 19) C dX9_pitch_19 ?_
  obtain ⟨q3, eq3, h⟩ := of_bind h
  refine kj_callVN1 (pc := 22) C (ct_X7_richness h18_0 eq3) (Nat.le_of_ble_eq_true rfl) mi_X7_richness ml_X9_154 (rc_st h18_0) rfl rfl ar0 (Nat.le_of_ble_eq_true rfl) dX9_pitch_22 ?_
  cases h
  exact kj_iret (pc := 25) C hr hR dX9_pitch_25
def f_X9_hold_48 (s0 : Int32) (M : Mem) : Option (Int32 × Mem) := some (s0, M)
set_option maxHeartbeats 4000000 in
set_option maxRecDepth 100000 in
theorem k_X9_hold_48 {g : GT} {X : XT} {t : Int32 × Mem} (C : Cx g X cX9_hold RX9 2 4) (hr : (xt X).sig.returnType = some .int) (hR : Rt g X (some (.int t.1)) t.2) : ∀ (s0 : Int32) (M : Mem) (w0 w1 : Option Value), f_X9_hold_48 s0 M = some t → Kj g X 2 48 [w0, w1] [.int s0] M := by
  intro s0 M w0 w1 h
  unfold f_X9_hold_48 at h
  cases h
  exact kj_iret (pc := 48) C hr hR dX9_hold_48
def f_X9_hold (v1 : Int32) (M : Mem) : Option (Int32 × Mem) := (f_X7_isThere 0 v1 M).bind (fun q1 => if q1 = 0 then some (((-1) : Int32), M) else (f_X0_remember 0 M).bind (fun q3 => (f_X7_turnHeldOn 0 v1 q3).bind (fun q4 => (f_X7_isHeldOn 0 v1 q4).bind (fun q5 => if q5 = 0 then f_X9_hold_48 0 q4 else f_X9_hold_48 1 q4))))
set_option maxHeartbeats 4000000 in
set_option maxRecDepth 100000 in
theorem ct_X9_hold {g : GT} {l : Launch} {v1 : Int32} {M : Mem} {t : Int32 × Mem} (h : f_X9_hold v1 M = some t) : Ct g l 4 yX9_hold cX9_hold 2 (some .int) [.ref (ga g 20 0), .int v1] M (some (.int t.1)) t.2 := by
  refine ct_of (k := 0) (by decide) (Nat.le_of_ble_eq_true rfl) rfl (fun X C hl hr hR => ?_)
  subst hl
  have C : Cx g X cX9_hold RX9 2 4 := C
  unfold f_X9_hold at h
  refine kj_ald0 (pc := 0) C dX9_hold_0 ?_
  refine gf_X9_28 (pc := 1) C dX9_hold_1 ?_
  refine kj_ild1 (pc := 4) C dX9_hold_4 ?_
  obtain ⟨q1, eq1, h⟩ := of_bind h
  refine kj_callVN1 (pc := 5) C (ct_X7_isThere h18_0 eq1) (Nat.le_of_ble_eq_true rfl) mi_X7_isThere ml_X9_104 (rc_st h18_0) rfl rfl ar1 (Nat.le_of_ble_eq_true rfl) dX9_hold_5 ?_
  refine kj_if_ne (pc := 8) C dX9_hold_8 (tgt := 13) (by decide) (fun c2 => ?_) (fun c2 => ?_)
  · have h := of_neg c2 h
    refine kj_ald0 (pc := 13) C dX9_hold_13 ?_
    refine gf_X9_38 (pc := 14) C dX9_hold_14 ?_
    refine kj_ald0 (pc := 17) C dX9_hold_17 ?_
    refine gf_X9_28 (pc := 18) C dX9_hold_18 ?_
    obtain ⟨q3, eq3, h⟩ := of_bind h
    refine kj_callVN0 (pc := 21) C (ct_X0_remember h18_0 eq3) (Nat.le_of_ble_eq_true rfl) mi_X0_remember ml_X9_143 rc_21 rfl rfl ar1 (Nat.le_of_ble_eq_true rfl) dX9_hold_21 ?_
    refine kj_ald0 (pc := 24) C dX9_hold_24 ?_
    refine gf_X9_28 (pc := 25) C dX9_hold_25 ?_
    refine kj_ild1 (pc := 28) C dX9_hold_28 ?_
    obtain ⟨q4, eq4, h⟩ := of_bind h
    refine kj_callVN0 (pc := 29) C (ct_X7_turnHeldOn h18_0 eq4) (Nat.le_of_ble_eq_true rfl) mi_X7_turnHeldOn ml_X9_167 (rc_st h18_0) rfl rfl ar1 (Nat.le_of_ble_eq_true rfl) dX9_hold_29 ?_
    refine kj_ald0 (pc := 32) C dX9_hold_32 ?_
    refine gf_X9_28 (pc := 33) C dX9_hold_33 ?_
    refine kj_ild1 (pc := 36) C dX9_hold_36 ?_
    obtain ⟨q5, eq5, h⟩ := of_bind h
    refine kj_callVN1 (pc := 37) C (ct_X7_isHeldOn h18_0 eq5) (Nat.le_of_ble_eq_true rfl) mi_X7_isHeldOn ml_X9_133 (rc_st h18_0) rfl rfl ar1 (Nat.le_of_ble_eq_true rfl) dX9_hold_37 ?_
    refine kj_if_eq (pc := 40) C dX9_hold_40 (tgt := 47) (by decide) (fun c6 => ?_) (fun c6 => ?_)
    · have h := of_pos c6 h
      refine kj_iconst (pc := 47) C (v := 0) dX9_hold_47 ci_0 ?_
      exact k_X9_hold_48 C hr hR _ _ _ _ h
    · have h := of_neg c6 h
      refine kj_iconst (pc := 43) C (v := 1) dX9_hold_43 ci_1 ?_
      refine kj_goto (pc := 44) C dX9_hold_44 (tgt := 48) (by decide) ?_
      exact k_X9_hold_48 C hr hR _ _ _ _ h
  · have h := of_pos c2 h
    refine kj_iconst (pc := 11) C (v := (-1)) dX9_hold_11 ci_m1 ?_
    cases h
    exact kj_iret (pc := 12) C hr hR dX9_hold_12
def f_X9_undo_26 (s0 : Int32) (M : Mem) : Option (Int32 × Mem) := some (s0, M)
set_option maxHeartbeats 4000000 in
set_option maxRecDepth 100000 in
theorem k_X9_undo_26 {g : GT} {X : XT} {t : Int32 × Mem} (C : Cx g X cX9_undo RX9 1 4) (hr : (xt X).sig.returnType = some .int) (hR : Rt g X (some (.int t.1)) t.2) : ∀ (s0 : Int32) (M : Mem) (w0 : Option Value), f_X9_undo_26 s0 M = some t → Kj g X 1 26 [w0] [.int s0] M := by
  intro s0 M w0 h
  unfold f_X9_undo_26 at h
  cases h
  exact kj_iret (pc := 26) C hr hR dX9_undo_26
def f_X9_undo (M : Mem) : Option (Int32 × Mem) := (f_X0_giveBack 0 M).bind (fun q1 => if q1.1 = 0 then f_X9_undo_26 (-3) q1.2 else f_X9_undo_26 (q1.2.1 21 0 2) q1.2)
set_option maxHeartbeats 4000000 in
set_option maxRecDepth 100000 in
theorem ct_X9_undo {g : GT} {l : Launch} {M : Mem} {t : Int32 × Mem} (h : f_X9_undo M = some t) : Ct g l 4 yX9_undo cX9_undo 1 (some .int) [.ref (ga g 20 0)] M (some (.int t.1)) t.2 := by
  refine ct_of (k := 0) (by decide) (Nat.le_of_ble_eq_true rfl) rfl (fun X C hl hr hR => ?_)
  subst hl
  have C : Cx g X cX9_undo RX9 1 4 := C
  unfold f_X9_undo at h
  refine kj_ald0 (pc := 0) C dX9_undo_0 ?_
  refine gf_X9_38 (pc := 1) C dX9_undo_1 ?_
  refine kj_ald0 (pc := 4) C dX9_undo_4 ?_
  refine gf_X9_28 (pc := 5) C dX9_undo_5 ?_
  obtain ⟨q1, eq1, h⟩ := of_bind h
  refine kj_callVN1 (pc := 8) C (ct_X0_giveBack h18_0 eq1) (Nat.le_of_ble_eq_true rfl) mi_X0_giveBack ml_X9_170 rc_21 rfl rfl ar1 (Nat.le_of_ble_eq_true rfl) dX9_undo_8 ?_
  refine kj_if_eq (pc := 11) C dX9_undo_11 (tgt := 24) (by decide) (fun c2 => ?_) (fun c2 => ?_)
  · have h := of_pos c2 h
    refine kj_bipush (pc := 24) C (v := (-3)) dX9_undo_24 cb_m3 ?_
    exact k_X9_undo_26 C hr hR _ _ _ h
  · have h := of_neg c2 h
    refine kj_ald0 (pc := 14) C dX9_undo_14 ?_
    refine gf_X9_38 (pc := 15) C dX9_undo_15 ?_
    refine gf_X9_174 (pc := 18) C dX9_undo_18 ?_
    refine kj_goto (pc := 21) C dX9_undo_21 (tgt := 26) (by decide) ?_
    exact k_X9_undo_26 C hr hR _ _ _ h
def f_X9_sings_37 (s0 : Int32) (M : Mem) : Option (Int32 × Mem) := some (s0, M)
set_option maxHeartbeats 4000000 in
set_option maxRecDepth 100000 in
theorem k_X9_sings_37 {g : GT} {X : XT} {t : Int32 × Mem} (C : Cx g X cX9_sings RX9 3 5) (hr : (xt X).sig.returnType = some .int) (hR : Rt g X (some (.int t.1)) t.2) : ∀ (s0 : Int32) (M : Mem) (w0 w1 w2 : Option Value), f_X9_sings_37 s0 M = some t → Kj g X 3 37 [w0, w1, w2] [.int s0] M := by
  intro s0 M w0 w1 w2 h
  unfold f_X9_sings_37 at h
  cases h
  exact kj_iret (pc := 37) C hr hR dX9_sings_37
def f_X9_sings (v1 : Int32) (v2 : Int32) (M : Mem) : Option (Int32 × Mem) := (f_X7_isThere 0 v1 M).bind (fun q1 => if q1 = 0 then some (((-1) : Int32), M) else (f_X9_isWithin v2 0 60 M).bind (fun q3 => if q3 = 0 then f_X9_sings_37 (-2) M else (f_X2_noteBehind v1 v2 M).bind (fun q5 => f_X9_sings_37 q5.1 q5.2)))
set_option maxHeartbeats 4000000 in
set_option maxRecDepth 100000 in
theorem ct_X9_sings {g : GT} {l : Launch} {v1 : Int32} {v2 : Int32} {M : Mem} {t : Int32 × Mem} (h : f_X9_sings v1 v2 M = some t) : Ct g l 5 yX9_sings cX9_sings 3 (some .int) [.ref (ga g 20 0), .int v1, .int v2] M (some (.int t.1)) t.2 := by
  refine ct_of (k := 0) (by decide) (Nat.le_of_ble_eq_true rfl) rfl (fun X C hl hr hR => ?_)
  subst hl
  have C : Cx g X cX9_sings RX9 3 5 := C
  unfold f_X9_sings at h
  refine kj_ald0 (pc := 0) C dX9_sings_0 ?_
  refine gf_X9_28 (pc := 1) C dX9_sings_1 ?_
  refine kj_ild1 (pc := 4) C dX9_sings_4 ?_
  obtain ⟨q1, eq1, h⟩ := of_bind h
  refine kj_callVN1 (pc := 5) C (ct_X7_isThere h18_0 eq1) (Nat.le_of_ble_eq_true rfl) mi_X7_isThere ml_X9_104 (rc_st h18_0) rfl rfl ar1 (Nat.le_of_ble_eq_true rfl) dX9_sings_5 ?_
  refine kj_if_ne (pc := 8) C dX9_sings_8 (tgt := 13) (by decide) (fun c2 => ?_) (fun c2 => ?_)
  · have h := of_neg c2 h
    refine kj_ild2 (pc := 13) C dX9_sings_13 ?_
    refine kj_iconst (pc := 14) C (v := 0) dX9_sings_14 ci_0 ?_
    refine kj_bipush (pc := 15) C (v := 60) dX9_sings_15 cb_60 ?_
    obtain ⟨q3, eq3, h⟩ := of_bind h
    refine kj_callS1 (pc := 17) C (ct_X9_isWithin eq3) (Nat.le_of_ble_eq_true rfl) mi_X9_isWithin ml_X9_136 rfl as3 (Nat.le_of_ble_eq_true rfl) dX9_sings_17 ?_
    refine kj_if_eq (pc := 20) C dX9_sings_20 (tgt := 35) (by decide) (fun c4 => ?_) (fun c4 => ?_)
    · have h := of_pos c4 h
      refine kj_bipush (pc := 35) C (v := (-2)) dX9_sings_35 cb_m2 ?_
      exact k_X9_sings_37 C hr hR _ _ _ _ _ h
    · have h := of_neg c4 h
      refine kj_ald0 (pc := 23) C dX9_sings_23 ?_
      refine gf_X9_61 (pc := 24) C dX9_sings_24 ?_
      refine kj_ild1 (pc := 27) C dX9_sings_27 ?_
      refine kj_ild2 (pc := 28) C dX9_sings_28 ?_
      obtain ⟨q5, eq5, h⟩ := of_bind h
      refine kj_callVN1 (pc := 29) C (ct_X2_noteBehind eq5) (Nat.le_of_ble_eq_true rfl) mi_X2_noteBehind ml_X9_175 rc_24 rfl rfl ar2 (Nat.le_of_ble_eq_true rfl) dX9_sings_29 ?_
      refine kj_goto (pc := 32) C dX9_sings_32 (tgt := 37) (by decide) ?_
      exact k_X9_sings_37 C hr hR _ _ _ _ _ h
  · have h := of_pos c2 h
    refine kj_iconst (pc := 11) C (v := (-1)) dX9_sings_11 ci_m1 ?_
    cases h
    exact kj_iret (pc := 12) C hr hR dX9_sings_12
def f_X9_notes_23 (s0 : Int32) (M : Mem) : Option (Int32 × Mem) := some (s0, M)
set_option maxHeartbeats 4000000 in
set_option maxRecDepth 100000 in
theorem k_X9_notes_23 {g : GT} {X : XT} {t : Int32 × Mem} (C : Cx g X cX9_notes RX9 2 5) (hr : (xt X).sig.returnType = some .int) (hR : Rt g X (some (.int t.1)) t.2) : ∀ (s0 : Int32) (M : Mem) (w0 w1 : Option Value), f_X9_notes_23 s0 M = some t → Kj g X 2 23 [w0, w1] [.int s0] M := by
  intro s0 M w0 w1 h
  unfold f_X9_notes_23 at h
  cases h
  exact kj_iret (pc := 23) C hr hR dX9_notes_23
def f_X9_notes (v1 : Int32) (M : Mem) : Option (Int32 × Mem) := (f_X9_isWithin v1 0 60 M).bind (fun q1 => if q1 = 0 then f_X9_notes_23 (-2) M else (f_X2_richnessBehind v1 M).bind (fun q3 => f_X9_notes_23 q3.1 q3.2))
set_option maxHeartbeats 4000000 in
set_option maxRecDepth 100000 in
theorem ct_X9_notes {g : GT} {l : Launch} {v1 : Int32} {M : Mem} {t : Int32 × Mem} (h : f_X9_notes v1 M = some t) : Ct g l 5 yX9_notes cX9_notes 2 (some .int) [.ref (ga g 20 0), .int v1] M (some (.int t.1)) t.2 := by
  refine ct_of (k := 0) (by decide) (Nat.le_of_ble_eq_true rfl) rfl (fun X C hl hr hR => ?_)
  subst hl
  have C : Cx g X cX9_notes RX9 2 5 := C
  unfold f_X9_notes at h
  refine kj_ild1 (pc := 0) C dX9_notes_0 ?_
  refine kj_iconst (pc := 1) C (v := 0) dX9_notes_1 ci_0 ?_
  refine kj_bipush (pc := 2) C (v := 60) dX9_notes_2 cb_60 ?_
  obtain ⟨q1, eq1, h⟩ := of_bind h
  refine kj_callS1 (pc := 4) C (ct_X9_isWithin eq1) (Nat.le_of_ble_eq_true rfl) mi_X9_isWithin ml_X9_136 rfl as3 (Nat.le_of_ble_eq_true rfl) dX9_notes_4 ?_
  refine kj_if_eq (pc := 7) C dX9_notes_7 (tgt := 21) (by decide) (fun c2 => ?_) (fun c2 => ?_)
  · have h := of_pos c2 h
    refine kj_bipush (pc := 21) C (v := (-2)) dX9_notes_21 cb_m2 ?_
    exact k_X9_notes_23 C hr hR _ _ _ _ h
  · have h := of_neg c2 h
    refine kj_ald0 (pc := 10) C dX9_notes_10 ?_
    refine gf_X9_61 (pc := 11) C dX9_notes_11 ?_
    refine kj_ild1 (pc := 14) C dX9_notes_14 ?_
    obtain ⟨q3, eq3, h⟩ := of_bind h
    refine kj_callVN1 (pc := 15) C (ct_X2_richnessBehind eq3) (Nat.le_of_ble_eq_true rfl) mi_X2_richnessBehind ml_X9_179 rc_24 rfl rfl ar1 (Nat.le_of_ble_eq_true rfl) dX9_notes_15 ?_
    refine kj_goto (pc := 18) C dX9_notes_18 (tgt := 23) (by decide) ?_
    exact k_X9_notes_23 C hr hR _ _ _ _ h
def f_X9_round_31 (s0 : Int32) (M : Mem) : Option (Int32 × Mem) := some (s0, M)
set_option maxHeartbeats 4000000 in
set_option maxRecDepth 100000 in
theorem k_X9_round_31 {g : GT} {X : XT} {t : Int32 × Mem} (C : Cx g X cX9_round RX9 2 5) (hr : (xt X).sig.returnType = some .int) (hR : Rt g X (some (.int t.1)) t.2) : ∀ (s0 : Int32) (M : Mem) (w0 w1 : Option Value), f_X9_round_31 s0 M = some t → Kj g X 2 31 [w0, w1] [.int s0] M := by
  intro s0 M w0 w1 h
  unfold f_X9_round_31 at h
  cases h
  exact kj_iret (pc := 31) C hr hR dX9_round_31
def f_X9_round_23 (s1 : Int32) (M : Mem) : Option (Int32 × Mem) := (f_X2_firstReturn s1 M).bind (fun q1 => f_X9_round_31 q1.1 q1.2)
set_option maxHeartbeats 4000000 in
set_option maxRecDepth 100000 in
theorem k_X9_round_23 {g : GT} {X : XT} {t : Int32 × Mem} (C : Cx g X cX9_round RX9 2 5) (hr : (xt X).sig.returnType = some .int) (hR : Rt g X (some (.int t.1)) t.2) : ∀ (s1 : Int32) (M : Mem) (w0 w1 : Option Value), f_X9_round_23 s1 M = some t → Kj g X 2 23 [w0, w1] [.int s1, .ref (ga g 24 0)] M := by
  intro s1 M w0 w1 h
  unfold f_X9_round_23 at h
  obtain ⟨q1, eq1, h⟩ := of_bind h
  refine kj_callVN1 (pc := 23) C (ct_X2_firstReturn eq1) (Nat.le_of_ble_eq_true rfl) mi_X2_firstReturn ml_X9_182 rc_24 rfl rfl ar1 (Nat.le_of_ble_eq_true rfl) dX9_round_23 ?_
  refine kj_goto (pc := 26) C dX9_round_26 (tgt := 31) (by decide) ?_
  exact k_X9_round_31 C hr hR _ _ _ _ h
def f_X9_round (v1 : Int32) (M : Mem) : Option (Int32 × Mem) := (f_X9_isWithin v1 0 1 M).bind (fun q1 => if q1 = 0 then f_X9_round_31 (-2) M else if v1 = 1 then f_X9_round_23 1 M else f_X9_round_23 0 M)
set_option maxHeartbeats 4000000 in
set_option maxRecDepth 100000 in
theorem ct_X9_round {g : GT} {l : Launch} {v1 : Int32} {M : Mem} {t : Int32 × Mem} (h : f_X9_round v1 M = some t) : Ct g l 5 yX9_round cX9_round 2 (some .int) [.ref (ga g 20 0), .int v1] M (some (.int t.1)) t.2 := by
  refine ct_of (k := 0) (by decide) (Nat.le_of_ble_eq_true rfl) rfl (fun X C hl hr hR => ?_)
  subst hl
  have C : Cx g X cX9_round RX9 2 5 := C
  unfold f_X9_round at h
  refine kj_ild1 (pc := 0) C dX9_round_0 ?_
  refine kj_iconst (pc := 1) C (v := 0) dX9_round_1 ci_0 ?_
  refine kj_iconst (pc := 2) C (v := 1) dX9_round_2 ci_1 ?_
  obtain ⟨q1, eq1, h⟩ := of_bind h
  refine kj_callS1 (pc := 3) C (ct_X9_isWithin eq1) (Nat.le_of_ble_eq_true rfl) mi_X9_isWithin ml_X9_136 rfl as3 (Nat.le_of_ble_eq_true rfl) dX9_round_3 ?_
  refine kj_if_eq (pc := 6) C dX9_round_6 (tgt := 29) (by decide) (fun c2 => ?_) (fun c2 => ?_)
  · have h := of_pos c2 h
    refine kj_bipush (pc := 29) C (v := (-2)) dX9_round_29 cb_m2 ?_
    exact k_X9_round_31 C hr hR _ _ _ _ h
  · have h := of_neg c2 h
    refine kj_ald0 (pc := 9) C dX9_round_9 ?_
    refine gf_X9_61 (pc := 10) C dX9_round_10 ?_
    refine kj_ild1 (pc := 13) C dX9_round_13 ?_
    refine kj_iconst (pc := 14) C (v := 1) dX9_round_14 ci_1 ?_
    refine kj_icmp_ne (pc := 15) C dX9_round_15 (tgt := 22) (by decide) (fun c3 => ?_) (fun c3 => ?_)
    · have h := of_neg c3 h
      refine kj_iconst (pc := 22) C (v := 0) dX9_round_22 ci_0 ?_
      exact k_X9_round_23 C hr hR _ _ _ _ h
    · have h := of_pos c3 h
      refine kj_iconst (pc := 18) C (v := 1) dX9_round_18 ci_1 ?_
      refine kj_goto (pc := 19) C dX9_round_19 (tgt := 23) (by decide) ?_
      exact k_X9_round_23 C hr hR _ _ _ _ h
def f_X9_unison (M : Mem) : Option (Int32 × Mem) := (f_X2_firstOneNote M).bind (fun q1 => some (q1.1, q1.2))
set_option maxHeartbeats 4000000 in
set_option maxRecDepth 100000 in
theorem ct_X9_unison {g : GT} {l : Launch} {M : Mem} {t : Int32 × Mem} (h : f_X9_unison M = some t) : Ct g l 5 yX9_unison cX9_unison 1 (some .int) [.ref (ga g 20 0)] M (some (.int t.1)) t.2 := by
  refine ct_of (k := 0) (by decide) (Nat.le_of_ble_eq_true rfl) rfl (fun X C hl hr hR => ?_)
  subst hl
  have C : Cx g X cX9_unison RX9 1 5 := C
  unfold f_X9_unison at h
  refine kj_ald0 (pc := 0) C dX9_unison_0 ?_
  refine gf_X9_61 (pc := 1) C dX9_unison_1 ?_
  obtain ⟨q1, eq1, h⟩ := of_bind h
  refine kj_callVN1 (pc := 4) C (ct_X2_firstOneNote eq1) (Nat.le_of_ble_eq_true rfl) mi_X2_firstOneNote ml_X9_186 rc_24 rfl rfl ar0 (Nat.le_of_ble_eq_true rfl) dX9_unison_4 ?_
  cases h
  exact kj_iret (pc := 7) C hr hR dX9_unison_7
def f_X9_gets_64 (s1 : Int32) (s2 : Int32) (s3 : Int32) (s4 : Int32) (M : Mem) : Option (Int32 × Mem) := (f_X2_leastGift s1 s2 s3 s4 M).bind (fun q1 => some (q1.1, q1.2))
set_option maxHeartbeats 4000000 in
set_option maxRecDepth 100000 in
theorem k_X9_gets_64 {g : GT} {X : XT} {t : Int32 × Mem} (C : Cx g X cX9_gets RX9 5 6) (hr : (xt X).sig.returnType = some .int) (hR : Rt g X (some (.int t.1)) t.2) : ∀ (s1 : Int32) (s2 : Int32) (s3 : Int32) (s4 : Int32) (M : Mem) (w0 w1 w2 w3 w4 : Option Value), f_X9_gets_64 s1 s2 s3 s4 M = some t → Kj g X 5 64 [w0, w1, w2, w3, w4] [.int s4, .int s3, .int s2, .int s1, .ref (ga g 24 0)] M := by
  intro s1 s2 s3 s4 M w0 w1 w2 w3 w4 h
  unfold f_X9_gets_64 at h
  obtain ⟨q1, eq1, h⟩ := of_bind h
  refine kj_callVN1 (pc := 64) C (ct_X2_leastGift eq1) (Nat.le_of_ble_eq_true rfl) mi_X2_leastGift ml_X9_189 rc_24 rfl rfl ar4 (Nat.le_of_ble_eq_true rfl) dX9_gets_64 ?_
  cases h
  exact kj_iret (pc := 67) C hr hR dX9_gets_67
def f_X9_gets_43 (M : Mem) : Option (Int32 × Mem) := some (((-2) : Int32), M)
set_option maxHeartbeats 4000000 in
set_option maxRecDepth 100000 in
theorem k_X9_gets_43 {g : GT} {X : XT} {t : Int32 × Mem} (C : Cx g X cX9_gets RX9 5 6) (hr : (xt X).sig.returnType = some .int) (hR : Rt g X (some (.int t.1)) t.2) : ∀ (M : Mem) (w0 w1 w2 w3 w4 : Option Value), f_X9_gets_43 M = some t → Kj g X 5 43 [w0, w1, w2, w3, w4] [] M := by
  intro M w0 w1 w2 w3 w4 h
  unfold f_X9_gets_43 at h
  refine kj_bipush (pc := 43) C (v := (-2)) dX9_gets_43 cb_m2 ?_
  cases h
  exact kj_iret (pc := 45) C hr hR dX9_gets_45
def f_X9_gets (v1 : Int32) (v2 : Int32) (v3 : Int32) (v4 : Int32) (M : Mem) : Option (Int32 × Mem) := (f_X7_isThere 0 v1 M).bind (fun q1 => if q1 = 0 then some (((-1) : Int32), M) else (f_X9_isWithin v2 0 9 M).bind (fun q3 => if q3 = 0 then f_X9_gets_43 M else (f_X9_isWithin v3 1 9 M).bind (fun q5 => if q5 = 0 then f_X9_gets_43 M else (f_X9_isWithin v4 0 1 M).bind (fun q7 => if q7 = 0 then f_X9_gets_43 M else if v4 = 1 then f_X9_gets_64 v1 v2 v3 1 M else f_X9_gets_64 v1 v2 v3 0 M))))
set_option maxHeartbeats 4000000 in
set_option maxRecDepth 100000 in
theorem ct_X9_gets {g : GT} {l : Launch} {v1 : Int32} {v2 : Int32} {v3 : Int32} {v4 : Int32} {M : Mem} {t : Int32 × Mem} (h : f_X9_gets v1 v2 v3 v4 M = some t) : Ct g l 6 yX9_gets cX9_gets 5 (some .int) [.ref (ga g 20 0), .int v1, .int v2, .int v3, .int v4] M (some (.int t.1)) t.2 := by
  refine ct_of (k := 0) (by decide) (Nat.le_of_ble_eq_true rfl) rfl (fun X C hl hr hR => ?_)
  subst hl
  have C : Cx g X cX9_gets RX9 5 6 := C
  unfold f_X9_gets at h
  refine kj_ald0 (pc := 0) C dX9_gets_0 ?_
  refine gf_X9_28 (pc := 1) C dX9_gets_1 ?_
  refine kj_ild1 (pc := 4) C dX9_gets_4 ?_
  obtain ⟨q1, eq1, h⟩ := of_bind h
  refine kj_callVN1 (pc := 5) C (ct_X7_isThere h18_0 eq1) (Nat.le_of_ble_eq_true rfl) mi_X7_isThere ml_X9_104 (rc_st h18_0) rfl rfl ar1 (Nat.le_of_ble_eq_true rfl) dX9_gets_5 ?_
  refine kj_if_ne (pc := 8) C dX9_gets_8 (tgt := 13) (by decide) (fun c2 => ?_) (fun c2 => ?_)
  · have h := of_neg c2 h
    refine kj_ild2 (pc := 13) C dX9_gets_13 ?_
    refine kj_iconst (pc := 14) C (v := 0) dX9_gets_14 ci_0 ?_
    refine kj_bipush (pc := 15) C (v := 9) dX9_gets_15 cb_9 ?_
    obtain ⟨q3, eq3, h⟩ := of_bind h
    refine kj_callS1 (pc := 17) C (ct_X9_isWithin eq3) (Nat.le_of_ble_eq_true rfl) mi_X9_isWithin ml_X9_136 rfl as3 (Nat.le_of_ble_eq_true rfl) dX9_gets_17 ?_
    refine kj_if_eq (pc := 20) C dX9_gets_20 (tgt := 43) (by decide) (fun c4 => ?_) (fun c4 => ?_)
    · have h := of_pos c4 h
      exact k_X9_gets_43 C hr hR  _ _ _ _ _ _ h
    · have h := of_neg c4 h
      refine kj_ild3 (pc := 23) C dX9_gets_23 ?_
      refine kj_iconst (pc := 24) C (v := 1) dX9_gets_24 ci_1 ?_
      refine kj_bipush (pc := 25) C (v := 9) dX9_gets_25 cb_9 ?_
      obtain ⟨q5, eq5, h⟩ := of_bind h
      refine kj_callS1 (pc := 27) C (ct_X9_isWithin eq5) (Nat.le_of_ble_eq_true rfl) mi_X9_isWithin ml_X9_136 rfl as3 (Nat.le_of_ble_eq_true rfl) dX9_gets_27 ?_
      refine kj_if_eq (pc := 30) C dX9_gets_30 (tgt := 43) (by decide) (fun c6 => ?_) (fun c6 => ?_)
      · have h := of_pos c6 h
        exact k_X9_gets_43 C hr hR  _ _ _ _ _ _ h
      · have h := of_neg c6 h
        refine kj_ild4 (pc := 33) C dX9_gets_33 ?_
        refine kj_iconst (pc := 35) C (v := 0) dX9_gets_35 ci_0 ?_
        refine kj_iconst (pc := 36) C (v := 1) dX9_gets_36 ci_1 ?_
        obtain ⟨q7, eq7, h⟩ := of_bind h
        refine kj_callS1 (pc := 37) C (ct_X9_isWithin eq7) (Nat.le_of_ble_eq_true rfl) mi_X9_isWithin ml_X9_136 rfl as3 (Nat.le_of_ble_eq_true rfl) dX9_gets_37 ?_
        refine kj_if_ne (pc := 40) C dX9_gets_40 (tgt := 46) (by decide) (fun c8 => ?_) (fun c8 => ?_)
        · have h := of_neg c8 h
          refine kj_ald0 (pc := 46) C dX9_gets_46 ?_
          refine gf_X9_61 (pc := 47) C dX9_gets_47 ?_
          refine kj_ild1 (pc := 50) C dX9_gets_50 ?_
          refine kj_ild2 (pc := 51) C dX9_gets_51 ?_
          refine kj_ild3 (pc := 52) C dX9_gets_52 ?_
          refine kj_ild4 (pc := 53) C dX9_gets_53 ?_
          refine kj_iconst (pc := 55) C (v := 1) dX9_gets_55 ci_1 ?_
          refine kj_icmp_ne (pc := 56) C dX9_gets_56 (tgt := 63) (by decide) (fun c9 => ?_) (fun c9 => ?_)
          · have h := of_neg c9 h
            refine kj_iconst (pc := 63) C (v := 0) dX9_gets_63 ci_0 ?_
            exact k_X9_gets_64 C hr hR _ _ _ _ _ _ _ _ _ _ h
          · have h := of_pos c9 h
            refine kj_iconst (pc := 59) C (v := 1) dX9_gets_59 ci_1 ?_
            refine kj_goto (pc := 60) C dX9_gets_60 (tgt := 64) (by decide) ?_
            exact k_X9_gets_64 C hr hR _ _ _ _ _ _ _ _ _ _ h
        · have h := of_pos c8 h
          exact k_X9_gets_43 C hr hR  _ _ _ _ _ _ h
  · have h := of_pos c2 h
    refine kj_iconst (pc := 11) C (v := (-1)) dX9_gets_11 ci_m1 ?_
    cases h
    exact kj_iret (pc := 12) C hr hR dX9_gets_12
def f_X9_best_37 (s1 : Int32) (s2 : Int32) (M : Mem) : Option (Int32 × Mem) := (f_X2_richestChange s1 s2 M).bind (fun q1 => some (q1.1, q1.2))
set_option maxHeartbeats 4000000 in
set_option maxRecDepth 100000 in
theorem k_X9_best_37 {g : GT} {X : XT} {t : Int32 × Mem} (C : Cx g X cX9_best RX9 3 6) (hr : (xt X).sig.returnType = some .int) (hR : Rt g X (some (.int t.1)) t.2) : ∀ (s1 : Int32) (s2 : Int32) (M : Mem) (w0 w1 w2 : Option Value), f_X9_best_37 s1 s2 M = some t → Kj g X 3 37 [w0, w1, w2] [.int s2, .int s1, .ref (ga g 24 0)] M := by
  intro s1 s2 M w0 w1 w2 h
  unfold f_X9_best_37 at h
  obtain ⟨q1, eq1, h⟩ := of_bind h
  refine kj_callVN1 (pc := 37) C (ct_X2_richestChange eq1) (Nat.le_of_ble_eq_true rfl) mi_X2_richestChange ml_X9_193 rc_24 rfl rfl ar2 (Nat.le_of_ble_eq_true rfl) dX9_best_37 ?_
  cases h
  exact kj_iret (pc := 40) C hr hR dX9_best_40
def f_X9_best_19 (M : Mem) : Option (Int32 × Mem) := some (((-2) : Int32), M)
set_option maxHeartbeats 4000000 in
set_option maxRecDepth 100000 in
theorem k_X9_best_19 {g : GT} {X : XT} {t : Int32 × Mem} (C : Cx g X cX9_best RX9 3 6) (hr : (xt X).sig.returnType = some .int) (hR : Rt g X (some (.int t.1)) t.2) : ∀ (M : Mem) (w0 w1 w2 : Option Value), f_X9_best_19 M = some t → Kj g X 3 19 [w0, w1, w2] [] M := by
  intro M w0 w1 w2 h
  unfold f_X9_best_19 at h
  refine kj_bipush (pc := 19) C (v := (-2)) dX9_best_19 cb_m2 ?_
  cases h
  exact kj_iret (pc := 21) C hr hR dX9_best_21
def f_X9_best (v1 : Int32) (v2 : Int32) (M : Mem) : Option (Int32 × Mem) := (f_X9_isWithin v1 1 9 M).bind (fun q1 => if q1 = 0 then f_X9_best_19 M else (f_X9_isWithin v2 0 1 M).bind (fun q3 => if q3 = 0 then f_X9_best_19 M else if v2 = 1 then f_X9_best_37 v1 1 M else f_X9_best_37 v1 0 M))
set_option maxHeartbeats 4000000 in
set_option maxRecDepth 100000 in
theorem ct_X9_best {g : GT} {l : Launch} {v1 : Int32} {v2 : Int32} {M : Mem} {t : Int32 × Mem} (h : f_X9_best v1 v2 M = some t) : Ct g l 6 yX9_best cX9_best 3 (some .int) [.ref (ga g 20 0), .int v1, .int v2] M (some (.int t.1)) t.2 := by
  refine ct_of (k := 0) (by decide) (Nat.le_of_ble_eq_true rfl) rfl (fun X C hl hr hR => ?_)
  subst hl
  have C : Cx g X cX9_best RX9 3 6 := C
  unfold f_X9_best at h
  refine kj_ild1 (pc := 0) C dX9_best_0 ?_
  refine kj_iconst (pc := 1) C (v := 1) dX9_best_1 ci_1 ?_
  refine kj_bipush (pc := 2) C (v := 9) dX9_best_2 cb_9 ?_
  obtain ⟨q1, eq1, h⟩ := of_bind h
  refine kj_callS1 (pc := 4) C (ct_X9_isWithin eq1) (Nat.le_of_ble_eq_true rfl) mi_X9_isWithin ml_X9_136 rfl as3 (Nat.le_of_ble_eq_true rfl) dX9_best_4 ?_
  refine kj_if_eq (pc := 7) C dX9_best_7 (tgt := 19) (by decide) (fun c2 => ?_) (fun c2 => ?_)
  · have h := of_pos c2 h
    exact k_X9_best_19 C hr hR  _ _ _ _ h
  · have h := of_neg c2 h
    refine kj_ild2 (pc := 10) C dX9_best_10 ?_
    refine kj_iconst (pc := 11) C (v := 0) dX9_best_11 ci_0 ?_
    refine kj_iconst (pc := 12) C (v := 1) dX9_best_12 ci_1 ?_
    obtain ⟨q3, eq3, h⟩ := of_bind h
    refine kj_callS1 (pc := 13) C (ct_X9_isWithin eq3) (Nat.le_of_ble_eq_true rfl) mi_X9_isWithin ml_X9_136 rfl as3 (Nat.le_of_ble_eq_true rfl) dX9_best_13 ?_
    refine kj_if_ne (pc := 16) C dX9_best_16 (tgt := 22) (by decide) (fun c4 => ?_) (fun c4 => ?_)
    · have h := of_neg c4 h
      refine kj_ald0 (pc := 22) C dX9_best_22 ?_
      refine gf_X9_61 (pc := 23) C dX9_best_23 ?_
      refine kj_ild1 (pc := 26) C dX9_best_26 ?_
      refine kj_ild2 (pc := 27) C dX9_best_27 ?_
      refine kj_iconst (pc := 28) C (v := 1) dX9_best_28 ci_1 ?_
      refine kj_icmp_ne (pc := 29) C dX9_best_29 (tgt := 36) (by decide) (fun c5 => ?_) (fun c5 => ?_)
      · have h := of_neg c5 h
        refine kj_iconst (pc := 36) C (v := 0) dX9_best_36 ci_0 ?_
        exact k_X9_best_37 C hr hR _ _ _ _ _ _ h
      · have h := of_pos c5 h
        refine kj_iconst (pc := 32) C (v := 1) dX9_best_32 ci_1 ?_
        refine kj_goto (pc := 33) C dX9_best_33 (tgt := 37) (by decide) ?_
        exact k_X9_best_37 C hr hR _ _ _ _ _ _ h
    · have h := of_pos c4 h
      exact k_X9_best_19 C hr hR  _ _ _ _ h
def f_X9_judge_25 (M : Mem) : Option (Int32 × Mem) := some (((-2) : Int32), M)
set_option maxHeartbeats 4000000 in
set_option maxRecDepth 100000 in
theorem k_X9_judge_25 {g : GT} {X : XT} {t : Int32 × Mem} (C : Cx g X cX9_judge RX9 4 6) (hr : (xt X).sig.returnType = some .int) (hR : Rt g X (some (.int t.1)) t.2) : ∀ (M : Mem) (w0 w1 w2 w3 : Option Value), f_X9_judge_25 M = some t → Kj g X 4 25 [w0, w1, w2, w3] [] M := by
  intro M w0 w1 w2 w3 h
  unfold f_X9_judge_25 at h
  refine kj_bipush (pc := 25) C (v := (-2)) dX9_judge_25 cb_m2 ?_
  cases h
  exact kj_iret (pc := 27) C hr hR dX9_judge_27
def f_X9_judge (v1 : Int32) (v2 : Int64) (M : Mem) : Option (Int32 × Mem) := (f_X9_isWithin v1 1 4 M).bind (fun q1 => if q1 = 0 then f_X9_judge_25 M else if (lg_cmp v2 (0 : Int64)) < 0 then f_X9_judge_25 M else (f_X9_withoutDoings v2 v1 M).bind (fun q4 => if (lg_cmp q4 (0 : Int64)) = 0 then (f_X2_firstWrongDoing v1 v2 M).bind (fun q6 => some (q6.1, q6.2)) else f_X9_judge_25 M))
set_option maxHeartbeats 4000000 in
set_option maxRecDepth 100000 in
theorem ct_X9_judge {g : GT} {l : Launch} {v1 : Int32} {v2 : Int64} {M : Mem} {t : Int32 × Mem} (h : f_X9_judge v1 v2 M = some t) : Ct g l 6 yX9_judge cX9_judge 4 (some .int) [.ref (ga g 20 0), .int v1, .long v2] M (some (.int t.1)) t.2 := by
  refine ct_of (k := 0) (by decide) (Nat.le_of_ble_eq_true rfl) rfl (fun X C hl hr hR => ?_)
  subst hl
  have C : Cx g X cX9_judge RX9 4 6 := C
  unfold f_X9_judge at h
  refine kj_ild1 (pc := 0) C dX9_judge_0 ?_
  refine kj_iconst (pc := 1) C (v := 1) dX9_judge_1 ci_1 ?_
  refine kj_iconst (pc := 2) C (v := 4) dX9_judge_2 ci_4 ?_
  obtain ⟨q1, eq1, h⟩ := of_bind h
  refine kj_callS1 (pc := 3) C (ct_X9_isWithin eq1) (Nat.le_of_ble_eq_true rfl) mi_X9_isWithin ml_X9_136 rfl as3 (Nat.le_of_ble_eq_true rfl) dX9_judge_3 ?_
  refine kj_if_eq (pc := 6) C dX9_judge_6 (tgt := 25) (by decide) (fun c2 => ?_) (fun c2 => ?_)
  · have h := of_pos c2 h
    exact k_X9_judge_25 C hr hR  _ _ _ _ _ h
  · have h := of_neg c2 h
    refine kj_lld2 (pc := 9) C dX9_judge_9 ?_
    refine kj_lconst (pc := 10) C (v := 0) dX9_judge_10 cl_0 ?_
    refine kj_lcmp (pc := 11) C dX9_judge_11 ?_
    refine kj_if_lt (pc := 12) C dX9_judge_12 (tgt := 25) (by decide) (fun c3 => ?_) (fun c3 => ?_)
    · have h := of_pos c3 h
      exact k_X9_judge_25 C hr hR  _ _ _ _ _ h
    · have h := of_neg c3 h
      refine kj_lld2 (pc := 15) C dX9_judge_15 ?_
      refine kj_ild1 (pc := 16) C dX9_judge_16 ?_
      obtain ⟨q4, eq4, h⟩ := of_bind h
      refine kj_callS1 (pc := 17) C (ct_X9_withoutDoings eq4) (Nat.le_of_ble_eq_true rfl) mi_X9_withoutDoings ml_X9_197 rfl as2 (Nat.le_of_ble_eq_true rfl) dX9_judge_17 ?_
      refine kj_lconst (pc := 20) C (v := 0) dX9_judge_20 cl_0 ?_
      refine kj_lcmp (pc := 21) C dX9_judge_21 ?_
      refine kj_if_eq (pc := 22) C dX9_judge_22 (tgt := 28) (by decide) (fun c5 => ?_) (fun c5 => ?_)
      · have h := of_pos c5 h
        refine kj_ald0 (pc := 28) C dX9_judge_28 ?_
        refine gf_X9_61 (pc := 29) C dX9_judge_29 ?_
        refine kj_ild1 (pc := 32) C dX9_judge_32 ?_
        refine kj_lld2 (pc := 33) C dX9_judge_33 ?_
        obtain ⟨q6, eq6, h⟩ := of_bind h
        refine kj_callVN1 (pc := 34) C (ct_X2_firstWrongDoing eq6) (Nat.le_of_ble_eq_true rfl) mi_X2_firstWrongDoing ml_X9_201 rc_24 rfl rfl ar2 (Nat.le_of_ble_eq_true rfl) dX9_judge_34 ?_
        cases h
        exact kj_iret (pc := 37) C hr hR dX9_judge_37
      · have h := of_neg c5 h
        exact k_X9_judge_25 C hr hR  _ _ _ _ _ h
def f_X9_hear_61 (s0 : Int32) (M : Mem) : Option (Int32 × Mem) := some (s0, M)
set_option maxHeartbeats 4000000 in
set_option maxRecDepth 100000 in
theorem k_X9_hear_61 {g : GT} {X : XT} {t : Int32 × Mem} (C : Cx g X cX9_hear RX9 4 1) (hr : (xt X).sig.returnType = some .int) (hR : Rt g X (some (.int t.1)) t.2) : ∀ (s0 : Int32) (M : Mem) (w0 w1 w2 w3 : Option Value), f_X9_hear_61 s0 M = some t → Kj g X 4 61 [w0, w1, w2, w3] [.int s0] M := by
  intro s0 M w0 w1 w2 w3 h
  unfold f_X9_hear_61 at h
  cases h
  exact kj_iret (pc := 61) C hr hR dX9_hear_61
def f_X9_hear_33 (M : Mem) : Option (Int32 × Mem) := some (((-2) : Int32), M)
set_option maxHeartbeats 4000000 in
set_option maxRecDepth 100000 in
theorem k_X9_hear_33 {g : GT} {X : XT} {t : Int32 × Mem} (C : Cx g X cX9_hear RX9 4 1) (hr : (xt X).sig.returnType = some .int) (hR : Rt g X (some (.int t.1)) t.2) : ∀ (M : Mem) (w0 w1 w2 w3 : Option Value), f_X9_hear_33 M = some t → Kj g X 4 33 [w0, w1, w2, w3] [] M := by
  intro M w0 w1 w2 w3 h
  unfold f_X9_hear_33 at h
  refine kj_bipush (pc := 33) C (v := (-2)) dX9_hear_33 cb_m2 ?_
  cases h
  exact kj_iret (pc := 35) C hr hR dX9_hear_35
def f_X9_hear (v1 : Int32) (v2 : Int32) (v3 : Int32) (M : Mem) : Option (Int32 × Mem) := (f_X7_isThere 0 v1 M).bind (fun q1 => if q1 = 0 then some (((-1) : Int32), M) else (f_X9_isWithin v2 0 9 M).bind (fun q3 => if q3 = 0 then f_X9_hear_33 M else (f_X9_isWithin v3 0 9 M).bind (fun q5 => if q5 = 0 then f_X9_hear_33 M else (f_X3_put v1 v2 v3 M).bind (fun q7 => if q7.1 = 0 then f_X9_hear_61 (-4) q7.2 else f_X9_hear_61 (q7.2.1 23 0 3) q7.2))))
set_option maxHeartbeats 4000000 in
set_option maxRecDepth 100000 in
theorem ct_X9_hear {g : GT} {l : Launch} {v1 : Int32} {v2 : Int32} {v3 : Int32} {M : Mem} {t : Int32 × Mem} (h : f_X9_hear v1 v2 v3 M = some t) : Ct g l 1 yX9_hear cX9_hear 4 (some .int) [.ref (ga g 20 0), .int v1, .int v2, .int v3] M (some (.int t.1)) t.2 := by
  refine ct_of (k := 0) (by decide) (Nat.le_of_ble_eq_true rfl) rfl (fun X C hl hr hR => ?_)
  subst hl
  have C : Cx g X cX9_hear RX9 4 1 := C
  unfold f_X9_hear at h
  refine kj_ald0 (pc := 0) C dX9_hear_0 ?_
  refine gf_X9_28 (pc := 1) C dX9_hear_1 ?_
  refine kj_ild1 (pc := 4) C dX9_hear_4 ?_
  obtain ⟨q1, eq1, h⟩ := of_bind h
  refine kj_callVN1 (pc := 5) C (ct_X7_isThere h18_0 eq1) (Nat.le_of_ble_eq_true rfl) mi_X7_isThere ml_X9_104 (rc_st h18_0) rfl rfl ar1 (Nat.le_of_ble_eq_true rfl) dX9_hear_5 ?_
  refine kj_if_ne (pc := 8) C dX9_hear_8 (tgt := 13) (by decide) (fun c2 => ?_) (fun c2 => ?_)
  · have h := of_neg c2 h
    refine kj_ild2 (pc := 13) C dX9_hear_13 ?_
    refine kj_iconst (pc := 14) C (v := 0) dX9_hear_14 ci_0 ?_
    refine kj_bipush (pc := 15) C (v := 9) dX9_hear_15 cb_9 ?_
    obtain ⟨q3, eq3, h⟩ := of_bind h
    refine kj_callS1 (pc := 17) C (ct_X9_isWithin eq3) (Nat.le_of_ble_eq_true rfl) mi_X9_isWithin ml_X9_136 rfl as3 (Nat.le_of_ble_eq_true rfl) dX9_hear_17 ?_
    refine kj_if_eq (pc := 20) C dX9_hear_20 (tgt := 33) (by decide) (fun c4 => ?_) (fun c4 => ?_)
    · have h := of_pos c4 h
      exact k_X9_hear_33 C hr hR  _ _ _ _ _ h
    · have h := of_neg c4 h
      refine kj_ild3 (pc := 23) C dX9_hear_23 ?_
      refine kj_iconst (pc := 24) C (v := 0) dX9_hear_24 ci_0 ?_
      refine kj_bipush (pc := 25) C (v := 9) dX9_hear_25 cb_9 ?_
      obtain ⟨q5, eq5, h⟩ := of_bind h
      refine kj_callS1 (pc := 27) C (ct_X9_isWithin eq5) (Nat.le_of_ble_eq_true rfl) mi_X9_isWithin ml_X9_136 rfl as3 (Nat.le_of_ble_eq_true rfl) dX9_hear_27 ?_
      refine kj_if_ne (pc := 30) C dX9_hear_30 (tgt := 36) (by decide) (fun c6 => ?_) (fun c6 => ?_)
      · have h := of_neg c6 h
        refine kj_ald0 (pc := 36) C dX9_hear_36 ?_
        refine gf_X9_52 (pc := 37) C dX9_hear_37 ?_
        refine kj_ild1 (pc := 40) C dX9_hear_40 ?_
        refine kj_ild2 (pc := 41) C dX9_hear_41 ?_
        refine kj_ild3 (pc := 42) C dX9_hear_42 ?_
        obtain ⟨q7, eq7, h⟩ := of_bind h
        refine kj_callVN1 (pc := 43) C (ct_X3_put eq7) (Nat.le_of_ble_eq_true rfl) mi_X3_put ml_X9_205 rc_23 rfl rfl ar3 (Nat.le_of_ble_eq_true rfl) dX9_hear_43 ?_
        refine kj_if_eq (pc := 46) C dX9_hear_46 (tgt := 59) (by decide) (fun c8 => ?_) (fun c8 => ?_)
        · have h := of_pos c8 h
          refine kj_bipush (pc := 59) C (v := (-4)) dX9_hear_59 cb_m4 ?_
          exact k_X9_hear_61 C hr hR _ _ _ _ _ _ h
        · have h := of_neg c8 h
          refine kj_ald0 (pc := 49) C dX9_hear_49 ?_
          refine gf_X9_52 (pc := 50) C dX9_hear_50 ?_
          refine gf_X9_207 (pc := 53) C dX9_hear_53 ?_
          refine kj_goto (pc := 56) C dX9_hear_56 (tgt := 61) (by decide) ?_
          exact k_X9_hear_61 C hr hR _ _ _ _ _ _ h
      · have h := of_pos c6 h
        exact k_X9_hear_33 C hr hR  _ _ _ _ _ h
  · have h := of_pos c2 h
    refine kj_iconst (pc := 11) C (v := (-1)) dX9_hear_11 ci_m1 ?_
    cases h
    exact kj_iret (pc := 12) C hr hR dX9_hear_12
def f_X9_unhear (M : Mem) : Option (Int32 × Mem) := lt_ (M.1 23 0 3) (fun x1 => lt_ (sw M 23 0 3 0) (fun M2 => some (x1, M2)))
set_option maxHeartbeats 4000000 in
set_option maxRecDepth 100000 in
theorem ct_X9_unhear {g : GT} {l : Launch} {M : Mem} {t : Int32 × Mem} (h : f_X9_unhear M = some t) : Ct g l 0 yX9_unhear cX9_unhear 2 (some .int) [.ref (ga g 20 0)] M (some (.int t.1)) t.2 := by
  refine ct_of (k := 1) (by decide) (Nat.le_of_ble_eq_true rfl) rfl (fun X C hl hr hR => ?_)
  subst hl
  have C : Cx g X cX9_unhear RX9 2 0 := C
  unfold f_X9_unhear at h
  refine kj_ald0 (pc := 0) C dX9_unhear_0 ?_
  refine gf_X9_52 (pc := 1) C dX9_unhear_1 ?_
  refine gf_X9_207 (pc := 4) C dX9_unhear_4 ?_
  obtain ⟨x1, ex1, h⟩ := of_lt h
  refine kj_ni ex1 ?_
  refine kj_ist1 (pc := 7) C dX9_unhear_7 (Nat.le_of_ble_eq_true rfl) rfl ?_
  refine kj_ald0 (pc := 8) C dX9_unhear_8 ?_
  refine gf_X9_52 (pc := 9) C dX9_unhear_9 ?_
  refine kj_iconst (pc := 12) C (v := 0) dX9_unhear_12 ci_0 ?_
  obtain ⟨M2, eM2, h⟩ := of_lt h
  refine pf_X9_207 (pc := 13) C dX9_unhear_13 ?_
  refine kj_nM eM2 ?_
  refine kj_ild1 (pc := 16) C dX9_unhear_16 ?_
  cases h
  exact kj_iret (pc := 17) C hr hR dX9_unhear_17
def f_X9_had_27 (s0 : Int32) (M : Mem) : Option (Int32 × Mem) := some (s0, M)
set_option maxHeartbeats 4000000 in
set_option maxRecDepth 100000 in
theorem k_X9_had_27 {g : GT} {X : XT} {t : Int32 × Mem} (C : Cx g X cX9_had RX9 2 6) (hr : (xt X).sig.returnType = some .int) (hR : Rt g X (some (.int t.1)) t.2) : ∀ (s0 : Int32) (M : Mem) (w0 w1 : Option Value), f_X9_had_27 s0 M = some t → Kj g X 2 27 [w0, w1] [.int s0] M := by
  intro s0 M w0 w1 h
  unfold f_X9_had_27 at h
  cases h
  exact kj_iret (pc := 27) C hr hR dX9_had_27
def f_X9_had (v1 : Int32) (M : Mem) : Option (Int32 × Mem) := (f_X7_isThere 0 v1 M).bind (fun q1 => if q1 = 0 then f_X9_had_27 (-1) M else (f_X2_goodsThatFit v1 M).bind (fun q3 => f_X9_had_27 q3.1 q3.2))
set_option maxHeartbeats 4000000 in
set_option maxRecDepth 100000 in
theorem ct_X9_had {g : GT} {l : Launch} {v1 : Int32} {M : Mem} {t : Int32 × Mem} (h : f_X9_had v1 M = some t) : Ct g l 6 yX9_had cX9_had 2 (some .int) [.ref (ga g 20 0), .int v1] M (some (.int t.1)) t.2 := by
  refine ct_of (k := 0) (by decide) (Nat.le_of_ble_eq_true rfl) rfl (fun X C hl hr hR => ?_)
  subst hl
  have C : Cx g X cX9_had RX9 2 6 := C
  unfold f_X9_had at h
  refine kj_ald0 (pc := 0) C dX9_had_0 ?_
  refine gf_X9_28 (pc := 1) C dX9_had_1 ?_
  refine kj_ild1 (pc := 4) C dX9_had_4 ?_
  obtain ⟨q1, eq1, h⟩ := of_bind h
  refine kj_callVN1 (pc := 5) C (ct_X7_isThere h18_0 eq1) (Nat.le_of_ble_eq_true rfl) mi_X7_isThere ml_X9_104 (rc_st h18_0) rfl rfl ar1 (Nat.le_of_ble_eq_true rfl) dX9_had_5 ?_
  refine kj_if_eq (pc := 8) C dX9_had_8 (tgt := 26) (by decide) (fun c2 => ?_) (fun c2 => ?_)
  · have h := of_pos c2 h
    refine kj_iconst (pc := 26) C (v := (-1)) dX9_had_26 ci_m1 ?_
    exact k_X9_had_27 C hr hR _ _ _ _ h
  · have h := of_neg c2 h
    refine kj_ald0 (pc := 11) C dX9_had_11 ?_
    refine gf_X9_61 (pc := 12) C dX9_had_12 ?_
    refine kj_ild1 (pc := 15) C dX9_had_15 ?_
    refine kj_ald0 (pc := 16) C dX9_had_16 ?_
    refine gf_X9_52 (pc := 17) C dX9_had_17 ?_
    obtain ⟨q3, eq3, h⟩ := of_bind h
    refine kj_callVN1 (pc := 20) C (ct_X2_goodsThatFit eq3) (Nat.le_of_ble_eq_true rfl) mi_X2_goodsThatFit ml_X9_208 rc_24 rfl rfl ar2 (Nat.le_of_ble_eq_true rfl) dX9_had_20 ?_
    refine kj_goto (pc := 23) C dX9_had_23 (tgt := 27) (by decide) ?_
    exact k_X9_had_27 C hr hR _ _ _ _ h
def f_X9_share_24 (s0 : Int32) (M : Mem) : Option (Int32 × Mem) := some (s0, M)
set_option maxHeartbeats 4000000 in
set_option maxRecDepth 100000 in
theorem k_X9_share_24 {g : GT} {X : XT} {t : Int32 × Mem} (C : Cx g X cX9_share RX9 3 6) (hr : (xt X).sig.returnType = some .int) (hR : Rt g X (some (.int t.1)) t.2) : ∀ (s0 : Int32) (M : Mem) (w0 w1 w2 : Option Value), f_X9_share_24 s0 M = some t → Kj g X 3 24 [w0, w1, w2] [.int s0] M := by
  intro s0 M w0 w1 w2 h
  unfold f_X9_share_24 at h
  cases h
  exact kj_iret (pc := 24) C hr hR dX9_share_24
def f_X9_share (v1 : Int32) (v2 : Int32) (M : Mem) : Option (Int32 × Mem) := (f_X7_isThere 0 v1 M).bind (fun q1 => if q1 = 0 then f_X9_share_24 (-1) M else (f_X1_meanGain v1 v2 M).bind (fun q3 => f_X9_share_24 q3.1 q3.2))
set_option maxHeartbeats 4000000 in
set_option maxRecDepth 100000 in
theorem ct_X9_share {g : GT} {l : Launch} {v1 : Int32} {v2 : Int32} {M : Mem} {t : Int32 × Mem} (h : f_X9_share v1 v2 M = some t) : Ct g l 6 yX9_share cX9_share 3 (some .int) [.ref (ga g 20 0), .int v1, .int v2] M (some (.int t.1)) t.2 := by
  refine ct_of (k := 0) (by decide) (Nat.le_of_ble_eq_true rfl) rfl (fun X C hl hr hR => ?_)
  subst hl
  have C : Cx g X cX9_share RX9 3 6 := C
  unfold f_X9_share at h
  refine kj_ald0 (pc := 0) C dX9_share_0 ?_
  refine gf_X9_28 (pc := 1) C dX9_share_1 ?_
  refine kj_ild1 (pc := 4) C dX9_share_4 ?_
  obtain ⟨q1, eq1, h⟩ := of_bind h
  refine kj_callVN1 (pc := 5) C (ct_X7_isThere h18_0 eq1) (Nat.le_of_ble_eq_true rfl) mi_X7_isThere ml_X9_104 (rc_st h18_0) rfl rfl ar1 (Nat.le_of_ble_eq_true rfl) dX9_share_5 ?_
  refine kj_if_eq (pc := 8) C dX9_share_8 (tgt := 23) (by decide) (fun c2 => ?_) (fun c2 => ?_)
  · have h := of_pos c2 h
    refine kj_iconst (pc := 23) C (v := (-1)) dX9_share_23 ci_m1 ?_
    exact k_X9_share_24 C hr hR _ _ _ _ _ h
  · have h := of_neg c2 h
    refine kj_ald0 (pc := 11) C dX9_share_11 ?_
    refine gf_X9_68 (pc := 12) C dX9_share_12 ?_
    refine kj_ild1 (pc := 15) C dX9_share_15 ?_
    refine kj_ild2 (pc := 16) C dX9_share_16 ?_
    obtain ⟨q3, eq3, h⟩ := of_bind h
    refine kj_callVN1 (pc := 17) C (ct_X1_meanGain eq3) (Nat.le_of_ble_eq_true rfl) mi_X1_meanGain ml_X9_212 rc_25 rfl rfl ar2 (Nat.le_of_ble_eq_true rfl) dX9_share_17 ?_
    refine kj_goto (pc := 20) C dX9_share_20 (tgt := 24) (by decide) ?_
    exact k_X9_share_24 C hr hR _ _ _ _ _ h
def f_X9_rests_57 (s1 : Int32) (s2 : Int32) (s3 : Int32) (M : Mem) : Option (Int32 × Mem) := (f_X1_restingPairs s1 s2 s3 M).bind (fun q1 => some (q1.1, q1.2))
set_option maxHeartbeats 4000000 in
set_option maxRecDepth 100000 in
theorem k_X9_rests_57 {g : GT} {X : XT} {t : Int32 × Mem} (C : Cx g X cX9_rests RX9 4 6) (hr : (xt X).sig.returnType = some .int) (hR : Rt g X (some (.int t.1)) t.2) : ∀ (s1 : Int32) (s2 : Int32) (s3 : Int32) (M : Mem) (w0 w1 w2 w3 : Option Value), f_X9_rests_57 s1 s2 s3 M = some t → Kj g X 4 57 [w0, w1, w2, w3] [.int s3, .int s2, .int s1, .ref (ga g 25 0)] M := by
  intro s1 s2 s3 M w0 w1 w2 w3 h
  unfold f_X9_rests_57 at h
  obtain ⟨q1, eq1, h⟩ := of_bind h
  refine kj_callVN1 (pc := 57) C (ct_X1_restingPairs eq1) (Nat.le_of_ble_eq_true rfl) mi_X1_restingPairs ml_X9_215 rc_25 rfl rfl ar3 (Nat.le_of_ble_eq_true rfl) dX9_rests_57 ?_
  cases h
  exact kj_iret (pc := 60) C hr hR dX9_rests_60
def f_X9_rests_38 (M : Mem) : Option (Int32 × Mem) := some (((-2) : Int32), M)
set_option maxHeartbeats 4000000 in
set_option maxRecDepth 100000 in
theorem k_X9_rests_38 {g : GT} {X : XT} {t : Int32 × Mem} (C : Cx g X cX9_rests RX9 4 6) (hr : (xt X).sig.returnType = some .int) (hR : Rt g X (some (.int t.1)) t.2) : ∀ (M : Mem) (w0 w1 w2 w3 : Option Value), f_X9_rests_38 M = some t → Kj g X 4 38 [w0, w1, w2, w3] [] M := by
  intro M w0 w1 w2 w3 h
  unfold f_X9_rests_38 at h
  refine kj_bipush (pc := 38) C (v := (-2)) dX9_rests_38 cb_m2 ?_
  cases h
  exact kj_iret (pc := 40) C hr hR dX9_rests_40
def f_X9_rests_22 (M : Mem) : Option (Int32 × Mem) := some (((-1) : Int32), M)
set_option maxHeartbeats 4000000 in
set_option maxRecDepth 100000 in
theorem k_X9_rests_22 {g : GT} {X : XT} {t : Int32 × Mem} (C : Cx g X cX9_rests RX9 4 6) (hr : (xt X).sig.returnType = some .int) (hR : Rt g X (some (.int t.1)) t.2) : ∀ (M : Mem) (w0 w1 w2 w3 : Option Value), f_X9_rests_22 M = some t → Kj g X 4 22 [w0, w1, w2, w3] [] M := by
  intro M w0 w1 w2 w3 h
  unfold f_X9_rests_22 at h
  refine kj_iconst (pc := 22) C (v := (-1)) dX9_rests_22 ci_m1 ?_
  cases h
  exact kj_iret (pc := 23) C hr hR dX9_rests_23
def f_X9_rests (v1 : Int32) (v2 : Int32) (v3 : Int32) (M : Mem) : Option (Int32 × Mem) := (f_X7_isThere 0 v1 M).bind (fun q1 => if q1 = 0 then f_X9_rests_22 M else (f_X7_isThere 0 v2 M).bind (fun q3 => if q3 = 0 then f_X9_rests_22 M else if v1 = v2 then f_X9_rests_38 M else (f_X9_isWithin v3 0 1 M).bind (fun q6 => if q6 = 0 then f_X9_rests_38 M else if v3 = 1 then f_X9_rests_57 v1 v2 1 M else f_X9_rests_57 v1 v2 0 M)))
set_option maxHeartbeats 4000000 in
set_option maxRecDepth 100000 in
theorem ct_X9_rests {g : GT} {l : Launch} {v1 : Int32} {v2 : Int32} {v3 : Int32} {M : Mem} {t : Int32 × Mem} (h : f_X9_rests v1 v2 v3 M = some t) : Ct g l 6 yX9_rests cX9_rests 4 (some .int) [.ref (ga g 20 0), .int v1, .int v2, .int v3] M (some (.int t.1)) t.2 := by
  refine ct_of (k := 0) (by decide) (Nat.le_of_ble_eq_true rfl) rfl (fun X C hl hr hR => ?_)
  subst hl
  have C : Cx g X cX9_rests RX9 4 6 := C
  unfold f_X9_rests at h
  refine kj_ald0 (pc := 0) C dX9_rests_0 ?_
  refine gf_X9_28 (pc := 1) C dX9_rests_1 ?_
  refine kj_ild1 (pc := 4) C dX9_rests_4 ?_
  obtain ⟨q1, eq1, h⟩ := of_bind h
  refine kj_callVN1 (pc := 5) C (ct_X7_isThere h18_0 eq1) (Nat.le_of_ble_eq_true rfl) mi_X7_isThere ml_X9_104 (rc_st h18_0) rfl rfl ar1 (Nat.le_of_ble_eq_true rfl) dX9_rests_5 ?_
  refine kj_if_eq (pc := 8) C dX9_rests_8 (tgt := 22) (by decide) (fun c2 => ?_) (fun c2 => ?_)
  · have h := of_pos c2 h
    exact k_X9_rests_22 C hr hR  _ _ _ _ _ h
  · have h := of_neg c2 h
    refine kj_ald0 (pc := 11) C dX9_rests_11 ?_
    refine gf_X9_28 (pc := 12) C dX9_rests_12 ?_
    refine kj_ild2 (pc := 15) C dX9_rests_15 ?_
    obtain ⟨q3, eq3, h⟩ := of_bind h
    refine kj_callVN1 (pc := 16) C (ct_X7_isThere h18_0 eq3) (Nat.le_of_ble_eq_true rfl) mi_X7_isThere ml_X9_104 (rc_st h18_0) rfl rfl ar1 (Nat.le_of_ble_eq_true rfl) dX9_rests_16 ?_
    refine kj_if_ne (pc := 19) C dX9_rests_19 (tgt := 24) (by decide) (fun c4 => ?_) (fun c4 => ?_)
    · have h := of_neg c4 h
      refine kj_ild1 (pc := 24) C dX9_rests_24 ?_
      refine kj_ild2 (pc := 25) C dX9_rests_25 ?_
      refine kj_icmp_eq (pc := 26) C dX9_rests_26 (tgt := 38) (by decide) (fun c5 => ?_) (fun c5 => ?_)
      · have h := of_pos c5 h
        exact k_X9_rests_38 C hr hR  _ _ _ _ _ h
      · have h := of_neg c5 h
        refine kj_ild3 (pc := 29) C dX9_rests_29 ?_
        refine kj_iconst (pc := 30) C (v := 0) dX9_rests_30 ci_0 ?_
        refine kj_iconst (pc := 31) C (v := 1) dX9_rests_31 ci_1 ?_
        obtain ⟨q6, eq6, h⟩ := of_bind h
        refine kj_callS1 (pc := 32) C (ct_X9_isWithin eq6) (Nat.le_of_ble_eq_true rfl) mi_X9_isWithin ml_X9_136 rfl as3 (Nat.le_of_ble_eq_true rfl) dX9_rests_32 ?_
        refine kj_if_ne (pc := 35) C dX9_rests_35 (tgt := 41) (by decide) (fun c7 => ?_) (fun c7 => ?_)
        · have h := of_neg c7 h
          refine kj_ald0 (pc := 41) C dX9_rests_41 ?_
          refine gf_X9_68 (pc := 42) C dX9_rests_42 ?_
          refine kj_ild1 (pc := 45) C dX9_rests_45 ?_
          refine kj_ild2 (pc := 46) C dX9_rests_46 ?_
          refine kj_ild3 (pc := 47) C dX9_rests_47 ?_
          refine kj_iconst (pc := 48) C (v := 1) dX9_rests_48 ci_1 ?_
          refine kj_icmp_ne (pc := 49) C dX9_rests_49 (tgt := 56) (by decide) (fun c8 => ?_) (fun c8 => ?_)
          · have h := of_neg c8 h
            refine kj_iconst (pc := 56) C (v := 0) dX9_rests_56 ci_0 ?_
            exact k_X9_rests_57 C hr hR _ _ _ _ _ _ _ _ h
          · have h := of_pos c8 h
            refine kj_iconst (pc := 52) C (v := 1) dX9_rests_52 ci_1 ?_
            refine kj_goto (pc := 53) C dX9_rests_53 (tgt := 57) (by decide) ?_
            exact k_X9_rests_57 C hr hR _ _ _ _ _ _ _ _ h
        · have h := of_pos c7 h
          exact k_X9_rests_38 C hr hR  _ _ _ _ _ h
    · have h := of_pos c4 h
      exact k_X9_rests_22 C hr hR  _ _ _ _ _ h
def f_X9_hoarse_20 (M : Mem) : Option (Int32 × Mem) := some (((-2) : Int32), M)
set_option maxHeartbeats 4000000 in
set_option maxRecDepth 100000 in
theorem k_X9_hoarse_20 {g : GT} {X : XT} {t : Int32 × Mem} (C : Cx g X cX9_hoarse RX9 4 6) (hr : (xt X).sig.returnType = some .int) (hR : Rt g X (some (.int t.1)) t.2) : ∀ (M : Mem) (w0 w1 w2 w3 : Option Value), f_X9_hoarse_20 M = some t → Kj g X 4 20 [w0, w1, w2, w3] [] M := by
  intro M w0 w1 w2 w3 h
  unfold f_X9_hoarse_20 at h
  refine kj_bipush (pc := 20) C (v := (-2)) dX9_hoarse_20 cb_m2 ?_
  cases h
  exact kj_iret (pc := 22) C hr hR dX9_hoarse_22
def f_X9_hoarse (v1 : Int32) (v2 : Int32) (v3 : Int32) (M : Mem) : Option (Int32 × Mem) := (f_X9_isWithin v1 0 9 M).bind (fun q1 => if q1 = 0 then f_X9_hoarse_20 M else (f_X9_isWithin v2 0 10 M).bind (fun q3 => if q3 = 0 then f_X9_hoarse_20 M else (f_X1_chanceOfOneNote v1 v2 v3 M).bind (fun q5 => some (q5.1, q5.2))))
set_option maxHeartbeats 4000000 in
set_option maxRecDepth 100000 in
theorem ct_X9_hoarse {g : GT} {l : Launch} {v1 : Int32} {v2 : Int32} {v3 : Int32} {M : Mem} {t : Int32 × Mem} (h : f_X9_hoarse v1 v2 v3 M = some t) : Ct g l 6 yX9_hoarse cX9_hoarse 4 (some .int) [.ref (ga g 20 0), .int v1, .int v2, .int v3] M (some (.int t.1)) t.2 := by
  refine ct_of (k := 0) (by decide) (Nat.le_of_ble_eq_true rfl) rfl (fun X C hl hr hR => ?_)
  subst hl
  have C : Cx g X cX9_hoarse RX9 4 6 := C
  unfold f_X9_hoarse at h
  refine kj_ild1 (pc := 0) C dX9_hoarse_0 ?_
  refine kj_iconst (pc := 1) C (v := 0) dX9_hoarse_1 ci_0 ?_
  refine kj_bipush (pc := 2) C (v := 9) dX9_hoarse_2 cb_9 ?_
  obtain ⟨q1, eq1, h⟩ := of_bind h
  refine kj_callS1 (pc := 4) C (ct_X9_isWithin eq1) (Nat.le_of_ble_eq_true rfl) mi_X9_isWithin ml_X9_136 rfl as3 (Nat.le_of_ble_eq_true rfl) dX9_hoarse_4 ?_
  refine kj_if_eq (pc := 7) C dX9_hoarse_7 (tgt := 20) (by decide) (fun c2 => ?_) (fun c2 => ?_)
  · have h := of_pos c2 h
    exact k_X9_hoarse_20 C hr hR  _ _ _ _ _ h
  · have h := of_neg c2 h
    refine kj_ild2 (pc := 10) C dX9_hoarse_10 ?_
    refine kj_iconst (pc := 11) C (v := 0) dX9_hoarse_11 ci_0 ?_
    refine kj_bipush (pc := 12) C (v := 10) dX9_hoarse_12 cb_10 ?_
    obtain ⟨q3, eq3, h⟩ := of_bind h
    refine kj_callS1 (pc := 14) C (ct_X9_isWithin eq3) (Nat.le_of_ble_eq_true rfl) mi_X9_isWithin ml_X9_136 rfl as3 (Nat.le_of_ble_eq_true rfl) dX9_hoarse_14 ?_
    refine kj_if_ne (pc := 17) C dX9_hoarse_17 (tgt := 23) (by decide) (fun c4 => ?_) (fun c4 => ?_)
    · have h := of_neg c4 h
      refine kj_ald0 (pc := 23) C dX9_hoarse_23 ?_
      refine gf_X9_68 (pc := 24) C dX9_hoarse_24 ?_
      refine kj_ild1 (pc := 27) C dX9_hoarse_27 ?_
      refine kj_ild2 (pc := 28) C dX9_hoarse_28 ?_
      refine kj_ild3 (pc := 29) C dX9_hoarse_29 ?_
      obtain ⟨q5, eq5, h⟩ := of_bind h
      refine kj_callVN1 (pc := 30) C (ct_X1_chanceOfOneNote eq5) (Nat.le_of_ble_eq_true rfl) mi_X1_chanceOfOneNote ml_X9_219 rc_25 rfl rfl ar3 (Nat.le_of_ble_eq_true rfl) dX9_hoarse_30 ?_
      cases h
      exact kj_iret (pc := 33) C hr hR dX9_hoarse_33
    · have h := of_pos c4 h
      exact k_X9_hoarse_20 C hr hR  _ _ _ _ _ h
def f_X9_seed (v1 : Int64) (M : Mem) : Option (Int64 × Mem) := lt_ (M.2 26) (fun x1 => lt_ (sl M 26 v1) (fun M2 => some (x1, M2)))
set_option maxHeartbeats 4000000 in
set_option maxRecDepth 100000 in
theorem ct_X9_seed {g : GT} {l : Launch} {v1 : Int64} {M : Mem} {t : Int64 × Mem} (h : f_X9_seed v1 M = some t) : Ct g l 0 yX9_seed cX9_seed 5 (some .long) [.ref (ga g 20 0), .long v1] M (some (.long t.1)) t.2 := by
  refine ct_of (k := 2) (by decide) (Nat.le_of_ble_eq_true rfl) rfl (fun X C hl hr hR => ?_)
  subst hl
  have C : Cx g X cX9_seed RX9 5 0 := C
  unfold f_X9_seed at h
  refine kj_ald0 (pc := 0) C dX9_seed_0 ?_
  refine gf_X9_77 (pc := 1) C dX9_seed_1 ?_
  refine gf_X9_222 (pc := 4) C dX9_seed_4 ?_
  obtain ⟨x1, ex1, h⟩ := of_lt h
  refine kj_nlg ex1 ?_
  refine kj_lst3 (pc := 7) C dX9_seed_7 (Nat.le_of_ble_eq_true rfl) rfl ?_
  refine kj_ald0 (pc := 8) C dX9_seed_8 ?_
  refine gf_X9_77 (pc := 9) C dX9_seed_9 ?_
  refine kj_lld1 (pc := 12) C dX9_seed_12 ?_
  obtain ⟨M2, eM2, h⟩ := of_lt h
  refine pf_X9_222 (pc := 13) C dX9_seed_13 ?_
  refine kj_nM eM2 ?_
  refine kj_lld3 (pc := 16) C dX9_seed_16 ?_
  cases h
  exact kj_lret (pc := 17) C hr hR dX9_seed_17
def f_X9_years_23 (s0 : Int32) (M : Mem) : Option (Int32 × Mem) := some (s0, M)
set_option maxHeartbeats 4000000 in
set_option maxRecDepth 100000 in
theorem k_X9_years_23 {g : GT} {X : XT} {t : Int32 × Mem} (C : Cx g X cX9_years RX9 2 6) (hr : (xt X).sig.returnType = some .int) (hR : Rt g X (some (.int t.1)) t.2) : ∀ (s0 : Int32) (M : Mem) (w0 w1 : Option Value), f_X9_years_23 s0 M = some t → Kj g X 2 23 [w0, w1] [.int s0] M := by
  intro s0 M w0 w1 h
  unfold f_X9_years_23 at h
  cases h
  exact kj_iret (pc := 23) C hr hR dX9_years_23
def f_X9_years (v1 : Int32) (M : Mem) : Option (Int32 × Mem) := (f_X9_isWithin v1 1 30 M).bind (fun q1 => if q1 = 0 then f_X9_years_23 (-2) M else (f_X8_goThrough v1 M).bind (fun q3 => f_X9_years_23 q3.1 q3.2))
set_option maxHeartbeats 4000000 in
set_option maxRecDepth 100000 in
theorem ct_X9_years {g : GT} {l : Launch} {v1 : Int32} {M : Mem} {t : Int32 × Mem} (h : f_X9_years v1 M = some t) : Ct g l 6 yX9_years cX9_years 2 (some .int) [.ref (ga g 20 0), .int v1] M (some (.int t.1)) t.2 := by
  refine ct_of (k := 0) (by decide) (Nat.le_of_ble_eq_true rfl) rfl (fun X C hl hr hR => ?_)
  subst hl
  have C : Cx g X cX9_years RX9 2 6 := C
  unfold f_X9_years at h
  refine kj_ild1 (pc := 0) C dX9_years_0 ?_
  refine kj_iconst (pc := 1) C (v := 1) dX9_years_1 ci_1 ?_
  refine kj_bipush (pc := 2) C (v := 30) dX9_years_2 cb_30 ?_
  obtain ⟨q1, eq1, h⟩ := of_bind h
  refine kj_callS1 (pc := 4) C (ct_X9_isWithin eq1) (Nat.le_of_ble_eq_true rfl) mi_X9_isWithin ml_X9_136 rfl as3 (Nat.le_of_ble_eq_true rfl) dX9_years_4 ?_
  refine kj_if_eq (pc := 7) C dX9_years_7 (tgt := 21) (by decide) (fun c2 => ?_) (fun c2 => ?_)
  · have h := of_pos c2 h
    refine kj_bipush (pc := 21) C (v := (-2)) dX9_years_21 cb_m2 ?_
    exact k_X9_years_23 C hr hR _ _ _ _ h
  · have h := of_neg c2 h
    refine kj_ald0 (pc := 10) C dX9_years_10 ?_
    refine gf_X9_77 (pc := 11) C dX9_years_11 ?_
    refine kj_ild1 (pc := 14) C dX9_years_14 ?_
    obtain ⟨q3, eq3, h⟩ := of_bind h
    refine kj_callVN1 (pc := 15) C (ct_X8_goThrough eq3) (Nat.le_of_ble_eq_true rfl) mi_X8_goThrough ml_X9_226 rc_26 rfl rfl ar1 (Nat.le_of_ble_eq_true rfl) dX9_years_15 ?_
    refine kj_goto (pc := 18) C dX9_years_18 (tgt := 23) (by decide) ?_
    exact k_X9_years_23 C hr hR _ _ _ _ h
def f_X9_keep_26 (s0 : Int32) (M : Mem) : Option (Int32 × Mem) := some (s0, M)
set_option maxHeartbeats 4000000 in
set_option maxRecDepth 100000 in
theorem k_X9_keep_26 {g : GT} {X : XT} {t : Int32 × Mem} (C : Cx g X cX9_keep RX9 2 4) (hr : (xt X).sig.returnType = some .int) (hR : Rt g X (some (.int t.1)) t.2) : ∀ (s0 : Int32) (M : Mem) (w0 w1 : Option Value), f_X9_keep_26 s0 M = some t → Kj g X 2 26 [w0, w1] [.int s0] M := by
  intro s0 M w0 w1 h
  unfold f_X9_keep_26 at h
  cases h
  exact kj_iret (pc := 26) C hr hR dX9_keep_26
def f_X9_keep (v1 : Int32) (M : Mem) : Option (Int32 × Mem) := (f_X6_put 0 v1 M).bind (fun q1 => if q1.1 = 0 then f_X9_keep_26 (-1) q1.2 else f_X9_keep_26 (q1.2.1 0 0 7) q1.2)
set_option maxHeartbeats 4000000 in
set_option maxRecDepth 100000 in
theorem ct_X9_keep {g : GT} {l : Launch} {v1 : Int32} {M : Mem} {t : Int32 × Mem} (h : f_X9_keep v1 M = some t) : Ct g l 4 yX9_keep cX9_keep 2 (some .int) [.ref (ga g 20 0), .int v1] M (some (.int t.1)) t.2 := by
  refine ct_of (k := 0) (by decide) (Nat.le_of_ble_eq_true rfl) rfl (fun X C hl hr hR => ?_)
  subst hl
  have C : Cx g X cX9_keep RX9 2 4 := C
  unfold f_X9_keep at h
  refine kj_ald0 (pc := 0) C dX9_keep_0 ?_
  refine gf_X9_45 (pc := 1) C dX9_keep_1 ?_
  refine kj_ild1 (pc := 4) C dX9_keep_4 ?_
  refine kj_ald0 (pc := 5) C dX9_keep_5 ?_
  refine gf_X9_28 (pc := 6) C dX9_keep_6 ?_
  obtain ⟨q1, eq1, h⟩ := of_bind h
  refine kj_callVN1 (pc := 9) C (ct_X6_put h18_0 eq1) (Nat.le_of_ble_eq_true rfl) mi_X6_put ml_X9_229 rc_22 rfl rfl ar2 (Nat.le_of_ble_eq_true rfl) dX9_keep_9 ?_
  refine kj_if_eq (pc := 12) C dX9_keep_12 (tgt := 25) (by decide) (fun c2 => ?_) (fun c2 => ?_)
  · have h := of_pos c2 h
    refine kj_iconst (pc := 25) C (v := (-1)) dX9_keep_25 ci_m1 ?_
    exact k_X9_keep_26 C hr hR _ _ _ _ h
  · have h := of_neg c2 h
    refine kj_ald0 (pc := 15) C dX9_keep_15 ?_
    refine gf_X9_28 (pc := 16) C dX9_keep_16 ?_
    refine gf_X9_151 (pc := 19) C h18_0 dX9_keep_19 ?_
    refine kj_goto (pc := 22) C dX9_keep_22 (tgt := 26) (by decide) ?_
    exact k_X9_keep_26 C hr hR _ _ _ _ h
def f_X9_again (v1 : Int32) (M : Mem) : Option (Int32 × Mem) := (f_X9_isWithin v1 0 1 M).bind (fun q1 => if q1 = 0 then some (((-1) : Int32), M) else (f_X6_giveBack 0 v1 M).bind (fun q3 => if q3.1 = 0 then some (((-3) : Int32), q3.2) else (f_X0_forgetAll q3.2).bind (fun q5 => some (q5.1 0 0 7, q5))))
set_option maxHeartbeats 4000000 in
set_option maxRecDepth 100000 in
theorem ct_X9_again {g : GT} {l : Launch} {v1 : Int32} {M : Mem} {t : Int32 × Mem} (h : f_X9_again v1 M = some t) : Ct g l 4 yX9_again cX9_again 2 (some .int) [.ref (ga g 20 0), .int v1] M (some (.int t.1)) t.2 := by
  refine ct_of (k := 0) (by decide) (Nat.le_of_ble_eq_true rfl) rfl (fun X C hl hr hR => ?_)
  subst hl
  have C : Cx g X cX9_again RX9 2 4 := C
  unfold f_X9_again at h
  refine kj_ild1 (pc := 0) C dX9_again_0 ?_
  refine kj_iconst (pc := 1) C (v := 0) dX9_again_1 ci_0 ?_
  refine kj_iconst (pc := 2) C (v := 1) dX9_again_2 ci_1 ?_
  obtain ⟨q1, eq1, h⟩ := of_bind h
  refine kj_callS1 (pc := 3) C (ct_X9_isWithin eq1) (Nat.le_of_ble_eq_true rfl) mi_X9_isWithin ml_X9_136 rfl as3 (Nat.le_of_ble_eq_true rfl) dX9_again_3 ?_
  refine kj_if_ne (pc := 6) C dX9_again_6 (tgt := 11) (by decide) (fun c2 => ?_) (fun c2 => ?_)
  · have h := of_neg c2 h
    refine kj_ald0 (pc := 11) C dX9_again_11 ?_
    refine gf_X9_45 (pc := 12) C dX9_again_12 ?_
    refine kj_ild1 (pc := 15) C dX9_again_15 ?_
    refine kj_ald0 (pc := 16) C dX9_again_16 ?_
    refine gf_X9_28 (pc := 17) C dX9_again_17 ?_
    obtain ⟨q3, eq3, h⟩ := of_bind h
    refine kj_callVN1 (pc := 20) C (ct_X6_giveBack h18_0 eq3) (Nat.le_of_ble_eq_true rfl) mi_X6_giveBack ml_X9_232 rc_22 rfl rfl ar2 (Nat.le_of_ble_eq_true rfl) dX9_again_20 ?_
    refine kj_if_ne (pc := 23) C dX9_again_23 (tgt := 29) (by decide) (fun c4 => ?_) (fun c4 => ?_)
    · have h := of_neg c4 h
      refine kj_ald0 (pc := 29) C dX9_again_29 ?_
      refine gf_X9_38 (pc := 30) C dX9_again_30 ?_
      obtain ⟨q5, eq5, h⟩ := of_bind h
      refine kj_callVN0 (pc := 33) C (ct_X0_forgetAll eq5) (Nat.le_of_ble_eq_true rfl) mi_X0_forgetAll ml_X9_97 rc_21 rfl rfl ar0 (Nat.le_of_ble_eq_true rfl) dX9_again_33 ?_
      refine kj_ald0 (pc := 36) C dX9_again_36 ?_
      refine gf_X9_28 (pc := 37) C dX9_again_37 ?_
      refine gf_X9_151 (pc := 40) C h18_0 dX9_again_40 ?_
      cases h
      exact kj_iret (pc := 43) C hr hR dX9_again_43
    · have h := of_pos c4 h
      refine kj_bipush (pc := 26) C (v := (-3)) dX9_again_26 cb_m3 ?_
      cases h
      exact kj_iret (pc := 28) C hr hR dX9_again_28
  · have h := of_pos c2 h
    refine kj_iconst (pc := 9) C (v := (-1)) dX9_again_9 ci_m1 ?_
    cases h
    exact kj_iret (pc := 10) C hr hR dX9_again_10
def f_X9_count (v1 : Int32) (M : Mem) : Option (Int32) := if v1 = 0 then some (M.1 18 0 1) else if v1 = 1 then some (M.1 19 0 3) else if v1 = 2 then some (M.1 0 0 7) else if v1 = 3 then (f_X7_seatsTaken 0 M).bind (fun q4 => some q4) else if v1 = 4 then (f_X7_notesSung 0 M).bind (fun q6 => some q6) else if v1 = 5 then (f_X7_goodsOfAll 0 M).bind (fun q8 => some q8) else if v1 = 6 then (f_X7_envious 0 M).bind (fun q10 => some q10) else if v1 = 7 then some (M.1 0 0 6) else if v1 = 8 then some (M.1 21 0 2) else if v1 = 9 then some (M.1 23 0 3) else some ((-2) : Int32)
set_option maxHeartbeats 4000000 in
set_option maxRecDepth 100000 in
theorem ct_X9_count {g : GT} {l : Launch} {v1 : Int32} {M : Mem} {t : Int32} (h : f_X9_count v1 M = some t) : Ct g l 3 yX9_count cX9_count 2 (some .int) [.ref (ga g 20 0), .int v1] M (some (.int t)) M := by
  refine ct_of (k := 0) (by decide) (Nat.le_of_ble_eq_true rfl) rfl (fun X C hl hr hR => ?_)
  subst hl
  have C : Cx g X cX9_count RX9 2 3 := C
  unfold f_X9_count at h
  refine kj_ild1 (pc := 0) C dX9_count_0 ?_
  rcases Classical.em (v1 = 0) with c1 | c1
  · have h := of_pos c1 h
    refine kj_tsIn (pc := 1) C (off := 55) (tgt := 56) dX9_count_1 (by rw [c1]; decide) (by rw [c1]; decide) (by rw [c1]; decide) (by decide) ?_
    refine kj_ald0 (pc := 56) C dX9_count_56 ?_
    refine gf_X9_10 (pc := 57) C dX9_count_57 ?_
    refine gf_X9_85 (pc := 60) C dX9_count_60 ?_
    cases h
    exact kj_iret (pc := 63) C hr hR dX9_count_63
  · have h := of_neg c1 h
    rcases Classical.em (v1 = 1) with c2 | c2
    · have h := of_pos c2 h
      refine kj_tsIn (pc := 1) C (off := 63) (tgt := 64) dX9_count_1 (by rw [c2]; decide) (by rw [c2]; decide) (by rw [c2]; decide) (by decide) ?_
      refine kj_ald0 (pc := 64) C dX9_count_64 ?_
      refine gf_X9_19 (pc := 65) C dX9_count_65 ?_
      refine gf_X9_101 (pc := 68) C dX9_count_68 ?_
      cases h
      exact kj_iret (pc := 71) C hr hR dX9_count_71
    · have h := of_neg c2 h
      rcases Classical.em (v1 = 2) with c3 | c3
      · have h := of_pos c3 h
        refine kj_tsIn (pc := 1) C (off := 71) (tgt := 72) dX9_count_1 (by rw [c3]; decide) (by rw [c3]; decide) (by rw [c3]; decide) (by decide) ?_
        refine kj_ald0 (pc := 72) C dX9_count_72 ?_
        refine gf_X9_28 (pc := 73) C dX9_count_73 ?_
        refine gf_X9_151 (pc := 76) C h18_0 dX9_count_76 ?_
        cases h
        exact kj_iret (pc := 79) C hr hR dX9_count_79
      · have h := of_neg c3 h
        rcases Classical.em (v1 = 3) with c5 | c5
        · have h := of_pos c5 h
          refine kj_tsIn (pc := 1) C (off := 79) (tgt := 80) dX9_count_1 (by rw [c5]; decide) (by rw [c5]; decide) (by rw [c5]; decide) (by decide) ?_
          refine kj_ald0 (pc := 80) C dX9_count_80 ?_
          refine gf_X9_28 (pc := 81) C dX9_count_81 ?_
          obtain ⟨q4, eq4, h⟩ := of_bind h
          refine kj_callVN1 (pc := 84) C (ct_X7_seatsTaken h18_0 eq4) (Nat.le_of_ble_eq_true rfl) mi_X7_seatsTaken ml_X9_234 (rc_st h18_0) rfl rfl ar0 (Nat.le_of_ble_eq_true rfl) dX9_count_84 ?_
          cases h
          exact kj_iret (pc := 87) C hr hR dX9_count_87
        · have h := of_neg c5 h
          rcases Classical.em (v1 = 4) with c7 | c7
          · have h := of_pos c7 h
            refine kj_tsIn (pc := 1) C (off := 87) (tgt := 88) dX9_count_1 (by rw [c7]; decide) (by rw [c7]; decide) (by rw [c7]; decide) (by decide) ?_
            refine kj_ald0 (pc := 88) C dX9_count_88 ?_
            refine gf_X9_28 (pc := 89) C dX9_count_89 ?_
            obtain ⟨q6, eq6, h⟩ := of_bind h
            refine kj_callVN1 (pc := 92) C (ct_X7_notesSung h18_0 eq6) (Nat.le_of_ble_eq_true rfl) mi_X7_notesSung ml_X9_237 (rc_st h18_0) rfl rfl ar0 (Nat.le_of_ble_eq_true rfl) dX9_count_92 ?_
            cases h
            exact kj_iret (pc := 95) C hr hR dX9_count_95
          · have h := of_neg c7 h
            rcases Classical.em (v1 = 5) with c9 | c9
            · have h := of_pos c9 h
              refine kj_tsIn (pc := 1) C (off := 95) (tgt := 96) dX9_count_1 (by rw [c9]; decide) (by rw [c9]; decide) (by rw [c9]; decide) (by decide) ?_
              refine kj_ald0 (pc := 96) C dX9_count_96 ?_
              refine gf_X9_28 (pc := 97) C dX9_count_97 ?_
              obtain ⟨q8, eq8, h⟩ := of_bind h
              refine kj_callVN1 (pc := 100) C (ct_X7_goodsOfAll h18_0 eq8) (Nat.le_of_ble_eq_true rfl) mi_X7_goodsOfAll ml_X9_240 (rc_st h18_0) rfl rfl ar0 (Nat.le_of_ble_eq_true rfl) dX9_count_100 ?_
              cases h
              exact kj_iret (pc := 103) C hr hR dX9_count_103
            · have h := of_neg c9 h
              rcases Classical.em (v1 = 6) with c11 | c11
              · have h := of_pos c11 h
                refine kj_tsIn (pc := 1) C (off := 103) (tgt := 104) dX9_count_1 (by rw [c11]; decide) (by rw [c11]; decide) (by rw [c11]; decide) (by decide) ?_
                refine kj_ald0 (pc := 104) C dX9_count_104 ?_
                refine gf_X9_28 (pc := 105) C dX9_count_105 ?_
                obtain ⟨q10, eq10, h⟩ := of_bind h
                refine kj_callVN1 (pc := 108) C (ct_X7_envious h18_0 eq10) (Nat.le_of_ble_eq_true rfl) mi_X7_envious ml_X9_243 (rc_st h18_0) rfl rfl ar0 (Nat.le_of_ble_eq_true rfl) dX9_count_108 ?_
                cases h
                exact kj_iret (pc := 111) C hr hR dX9_count_111
              · have h := of_neg c11 h
                rcases Classical.em (v1 = 7) with c12 | c12
                · have h := of_pos c12 h
                  refine kj_tsIn (pc := 1) C (off := 111) (tgt := 112) dX9_count_1 (by rw [c12]; decide) (by rw [c12]; decide) (by rw [c12]; decide) (by decide) ?_
                  refine kj_ald0 (pc := 112) C dX9_count_112 ?_
                  refine gf_X9_28 (pc := 113) C dX9_count_113 ?_
                  refine gf_X9_246 (pc := 116) C h18_0 dX9_count_116 ?_
                  cases h
                  exact kj_iret (pc := 119) C hr hR dX9_count_119
                · have h := of_neg c12 h
                  rcases Classical.em (v1 = 8) with c13 | c13
                  · have h := of_pos c13 h
                    refine kj_tsIn (pc := 1) C (off := 119) (tgt := 120) dX9_count_1 (by rw [c13]; decide) (by rw [c13]; decide) (by rw [c13]; decide) (by decide) ?_
                    refine kj_ald0 (pc := 120) C dX9_count_120 ?_
                    refine gf_X9_38 (pc := 121) C dX9_count_121 ?_
                    refine gf_X9_174 (pc := 124) C dX9_count_124 ?_
                    cases h
                    exact kj_iret (pc := 127) C hr hR dX9_count_127
                  · have h := of_neg c13 h
                    rcases Classical.em (v1 = 9) with c14 | c14
                    · have h := of_pos c14 h
                      refine kj_tsIn (pc := 1) C (off := 127) (tgt := 128) dX9_count_1 (by rw [c14]; decide) (by rw [c14]; decide) (by rw [c14]; decide) (by decide) ?_
                      refine kj_ald0 (pc := 128) C dX9_count_128 ?_
                      refine gf_X9_52 (pc := 129) C dX9_count_129 ?_
                      refine gf_X9_207 (pc := 132) C dX9_count_132 ?_
                      cases h
                      exact kj_iret (pc := 135) C hr hR dX9_count_135
                    · have h := of_neg c14 h
                      refine kj_tsOut (pc := 1) C (tgt := 136) dX9_count_1 (ts_out9 c1 c2 c3 c5 c7 c9 c11 c12 c13 c14) (by decide) ?_
                      refine kj_bipush (pc := 136) C (v := (-2)) dX9_count_136 cb_m2 ?_
                      cases h
                      exact kj_iret (pc := 138) C hr hR dX9_count_138
