def f_X10_years_165 (k23 : Int32 → Int32 → Int32 → Mem → Option (Int32 × Mem)) (v1 : Int32) (v2 : Int32) (v3 : Int32) (M : Mem) : Option (Int32 × Mem) := (f_X10_notesOn 1 M).bind (fun q1 => (f_X10_ones q1 M).bind (fun q2 => lt_ (v2 + q2) (fun x3 => lt_ (v3 + 1) (fun x4 => k23 v1 x3 x4 M))))
set_option maxHeartbeats 4000000 in
set_option maxRecDepth 100000 in
theorem k_X10_years_165 {g : GT} {X : XT} {k23 : Int32 → Int32 → Int32 → Mem → Option (Int32 × Mem)} {t : Int32 × Mem} (C : Cx g X cX10_years RX10 5 6) (hr : (xt X).sig.returnType = some .int) (hR : Rt g X (some (.int t.1)) t.2) (hk23 : ∀ (v1 : Int32) (v2 : Int32) (v3 : Int32) (M : Mem) (w4 : Option Value), k23 v1 v2 v3 M = some t → Kj g X 5 23 [some (.ref (ga g 27 0)), some (.int v1), some (.int v2), some (.int v3), w4] [] M) : ∀ (v1 : Int32) (v2 : Int32) (v3 : Int32) (M : Mem) (w4 : Option Value), f_X10_years_165 k23 v1 v2 v3 M = some t → Kj g X 5 165 [some (.ref (ga g 27 0)), some (.int v1), some (.int v2), some (.int v3), w4] [] M := by
  intro v1 v2 v3 M w4 h
  unfold f_X10_years_165 at h
  refine kj_ild2 (pc := 165) C dX10_years_165 ?_
  refine kj_ald0 (pc := 166) C dX10_years_166 ?_
  refine kj_iconst (pc := 167) C (v := 1) dX10_years_167 ci_1 ?_
  obtain ⟨q1, eq1, h⟩ := of_bind h
  refine kj_callV1 (pc := 168) C (ct_X10_notesOn eq1) (Nat.le_of_ble_eq_true rfl) mi_X10_notesOn ml_X10_137 rc_27 rfl rfl ar1 (Nat.le_of_ble_eq_true rfl) dX10_years_168 ?_
  obtain ⟨q2, eq2, h⟩ := of_bind h
  refine kj_callS1 (pc := 171) C (ct_X10_ones eq2) (Nat.le_of_ble_eq_true rfl) mi_X10_ones ml_X10_140 rfl as1 (Nat.le_of_ble_eq_true rfl) dX10_years_171 ?_
  refine kj_iadd (pc := 174) C dX10_years_174 ?_
  obtain ⟨x3, ex3, h⟩ := of_lt h
  refine kj_ni ex3 ?_
  refine kj_ist2 (pc := 175) C dX10_years_175 (Nat.le_of_ble_eq_true rfl) rfl ?_
  obtain ⟨x4, ex4, h⟩ := of_lt h
  refine kj_iinc3 (pc := 176) C (v := x4) dX10_years_176 (Nat.le_of_ble_eq_true rfl) rfl (by rw [ex4, ci_1]) ?_
  refine kj_goto (pc := 179) C dX10_years_179 (tgt := 23) (by decide) ?_
  exact hk23 _ _ _ _ _ h
def f_X10_years_151 (k23 : Int32 → Int32 → Int32 → Mem → Option (Int32 × Mem)) (v1 : Int32) (v2 : Int32) (v3 : Int32) (s1 : Int32) (s2 : Int32) (s3 : Int32) (M : Mem) : Option (Int32 × Mem) := if ¬ (s1 < 0 ∨ 40 ≤ s1.toNatClampNeg) then lt_ (sw M 27 4 s1.toNatClampNeg (s2 ^^^ s3)) (fun M2 => f_X10_years_165 k23 v1 v2 v3 M2) else none
set_option maxHeartbeats 4000000 in
set_option maxRecDepth 100000 in
theorem k_X10_years_151 {g : GT} {X : XT} {k23 : Int32 → Int32 → Int32 → Mem → Option (Int32 × Mem)} {t : Int32 × Mem} (C : Cx g X cX10_years RX10 5 6) (hr : (xt X).sig.returnType = some .int) (hR : Rt g X (some (.int t.1)) t.2) (hk23 : ∀ (v1 : Int32) (v2 : Int32) (v3 : Int32) (M : Mem) (w4 : Option Value), k23 v1 v2 v3 M = some t → Kj g X 5 23 [some (.ref (ga g 27 0)), some (.int v1), some (.int v2), some (.int v3), w4] [] M) : ∀ (v1 : Int32) (v2 : Int32) (v3 : Int32) (s1 : Int32) (s2 : Int32) (s3 : Int32) (M : Mem) (w4 : Option Value), f_X10_years_151 k23 v1 v2 v3 s1 s2 s3 M = some t → Kj g X 5 151 [some (.ref (ga g 27 0)), some (.int v1), some (.int v2), some (.int v3), w4] [.int s3, .int s2, .int s1, .ref (ga g 27 4)] M := by
  intro v1 v2 v3 s1 s2 s3 M w4 h
  unfold f_X10_years_151 at h
  refine kj_ixor (pc := 151) C dX10_years_151 ?_
  obtain ⟨c1, h⟩ := of_gd h
  obtain ⟨M2, eM2, h⟩ := of_lt h
  refine kj_iast2 (pc := 152) C ia_27_4 c1 dX10_years_152 ?_
  refine kj_nM eM2 ?_
  refine kj_goto (pc := 153) C dX10_years_153 (tgt := 165) (by decide) ?_
  exact k_X10_years_165 C hr hR hk23 _ _ _ _ _ h
def f_X10_years_23 (n : Nat) (v1 : Int32) (v2 : Int32) (v3 : Int32) (M : Mem) : Option (Int32 × Mem) := match n with
  | 0 => none
  | n + 1 => if v1 ≤ v3 then some (v2, M) else lt_ (sl M 27 (((M.2 27) * (6364136223846793005 : Int64)) + (1442695040888963407 : Int64))) (fun M2 => lt_ (((M2.2 27).toUInt64 >>> ((33 : Int32).toInt64.toUInt64 &&& Int64.toUInt64 63)).toInt64) (fun x3 => lt_ ((x3 - x3 / 28 * 28).toInt32) (fun x4 => if x4 ≤ 17 then if x4 = 17 then (f_X10_pitchOn 1 M2).bind (fun q14 => f_X10_years_165 (f_X10_years_23 n) v1 v2 v3 q14) else if x4 ≤ 11 then if x4 ≤ 5 then (f_X10_tryThing 1 x4 1 M2).bind (fun q9 => f_X10_years_165 (f_X10_years_23 n) v1 v2 v3 q9.2) else if ¬ ((38 : Int32) < 0 ∨ 40 ≤ (38 : Int32).toNatClampNeg) then (f_X10_isSinger (x4 - (6 : Int32)) M2).bind (fun q11 => if q11 = 0 then f_X10_years_151 (f_X10_years_23 n) v1 v2 v3 38 (M2.1 27 4 (38 : Int32).toNatClampNeg) 0 M2 else f_X10_years_151 (f_X10_years_23 n) v1 v2 v3 38 (M2.1 27 4 (38 : Int32).toNatClampNeg) ((1 : Int32) <<< ((x4 - (6 : Int32)) &&& 31)) M2) else none else (f_X10_tryThing 2 (x4 - (12 : Int32)) (x4 - (11 : Int32)) M2).bind (fun q13 => f_X10_years_165 (f_X10_years_23 n) v1 v2 v3 q13.2) else (f_X10_passOn 1 M2).bind (fun q15 => f_X10_years_165 (f_X10_years_23 n) v1 v2 v3 q15))))
set_option maxHeartbeats 4000000 in
set_option maxRecDepth 100000 in
theorem k_X10_years_23 {g : GT} {X : XT} {t : Int32 × Mem} (C : Cx g X cX10_years RX10 5 6) (hr : (xt X).sig.returnType = some .int) (hR : Rt g X (some (.int t.1)) t.2) (n : Nat) : ∀ (v1 : Int32) (v2 : Int32) (v3 : Int32) (M : Mem) (w4 : Option Value), f_X10_years_23 n v1 v2 v3 M = some t → Kj g X 5 23 [some (.ref (ga g 27 0)), some (.int v1), some (.int v2), some (.int v3), w4] [] M := by
  induction n with
  | zero => intro v1 v2 v3 M w4 h; rw [f_X10_years_23] at h; cases h
  | succ n ih =>
    intro v1 v2 v3 M w4 h
    rw [f_X10_years_23] at h
    refine kj_ild3 (pc := 23) C dX10_years_23 ?_
    refine kj_ild1 (pc := 24) C dX10_years_24 ?_
    refine kj_icmp_ge (pc := 25) C dX10_years_25 (tgt := 182) (by decide) (fun c1 => ?_) (fun c1 => ?_)
    · have h := of_pos c1 h
      refine kj_ild2 (pc := 182) C dX10_years_182 ?_
      cases h
      exact kj_iret (pc := 183) C hr hR dX10_years_183
    · have h := of_neg c1 h
      refine kj_ald0 (pc := 28) C dX10_years_28 ?_
      refine kj_ald0 (pc := 29) C dX10_years_29 ?_
      refine gf_X10_214 (pc := 30) C dX10_years_30 ?_
      refine kj_ldc2 (pc := 33) C cn_X10_220 dX10_years_33 ?_
      refine kj_lmul (pc := 36) C dX10_years_36 ?_
      refine kj_ldc2 (pc := 37) C cn_X10_222 dX10_years_37 ?_
      refine kj_ladd (pc := 40) C dX10_years_40 ?_
      obtain ⟨M2, eM2, h⟩ := of_lt h
      refine pf_X10_214 (pc := 41) C dX10_years_41 ?_
      refine kj_nM eM2 ?_
      refine kj_ald0 (pc := 44) C dX10_years_44 ?_
      refine gf_X10_214 (pc := 45) C dX10_years_45 ?_
      refine kj_bipush (pc := 48) C (v := 33) dX10_years_48 cb_33 ?_
      refine kj_lushr (pc := 50) C dX10_years_50 ?_
      refine kj_ldc2 (pc := 51) C cn_X10_224 dX10_years_51 ?_
      obtain ⟨x3, ex3, h⟩ := of_lt h
      rw [← ex3]
      refine kj_lrem (pc := 54) C dX10_years_54 (by decide) ?_
      refine kj_l2i (pc := 55) C dX10_years_55 ?_
      obtain ⟨x4, ex4, h⟩ := of_lt h
      refine kj_ni ex4 ?_
      refine kj_ist4 (pc := 56) C dX10_years_56 (Nat.le_of_ble_eq_true rfl) rfl ?_
      refine kj_ild4 (pc := 58) C dX10_years_58 ?_
      refine kj_bipush (pc := 60) C (v := 17) dX10_years_60 cb_17 ?_
      refine kj_icmp_le (pc := 62) C dX10_years_62 (tgt := 73) (by decide) (fun c5 => ?_) (fun c5 => ?_)
      · have h := of_pos c5 h
        refine kj_ild4 (pc := 73) C dX10_years_73 ?_
        refine kj_bipush (pc := 75) C (v := 17) dX10_years_75 cb_17 ?_
        refine kj_icmp_ne (pc := 77) C dX10_years_77 (tgt := 88) (by decide) (fun c6 => ?_) (fun c6 => ?_)
        · have h := of_neg c6 h
          refine kj_ild4 (pc := 88) C dX10_years_88 ?_
          refine kj_bipush (pc := 90) C (v := 11) dX10_years_90 cb_11 ?_
          refine kj_icmp_le (pc := 92) C dX10_years_92 (tgt := 114) (by decide) (fun c7 => ?_) (fun c7 => ?_)
          · have h := of_pos c7 h
            refine kj_ild4 (pc := 114) C dX10_years_114 ?_
            refine kj_iconst (pc := 116) C (v := 5) dX10_years_116 ci_5 ?_
            refine kj_icmp_le (pc := 117) C dX10_years_117 (tgt := 156) (by decide) (fun c8 => ?_) (fun c8 => ?_)
            · have h := of_pos c8 h
              refine kj_ald0 (pc := 156) C dX10_years_156 ?_
              refine kj_iconst (pc := 157) C (v := 1) dX10_years_157 ci_1 ?_
              refine kj_ild4 (pc := 158) C dX10_years_158 ?_
              refine kj_iconst (pc := 160) C (v := 1) dX10_years_160 ci_1 ?_
              obtain ⟨q9, eq9, h⟩ := of_bind h
              refine kj_callV1 (pc := 161) C (ct_X10_tryThing eq9) (Nat.le_of_ble_eq_true rfl) mi_X10_tryThing ml_X10_183 rc_27 rfl rfl ar3 (Nat.le_of_ble_eq_true rfl) dX10_years_161 ?_
              refine kj_pop (pc := 164) C dX10_years_164 rfl ?_
              exact k_X10_years_165 C hr hR ih _ _ _ _ _ h
            · have h := of_neg c8 h
              refine kj_ald0 (pc := 120) C dX10_years_120 ?_
              refine gf_X10_19 (pc := 121) C dX10_years_121 ?_
              refine kj_bipush (pc := 124) C (v := 38) dX10_years_124 cb_38 ?_
              refine kj_dup2 (pc := 126) C dX10_years_126 rfl rfl ?_
              obtain ⟨c10, h⟩ := of_gd h
              refine kj_iald2 (pc := 127) C ia_27_4 c10 dX10_years_127 ?_
              refine kj_ald0 (pc := 128) C dX10_years_128 ?_
              refine kj_ild4 (pc := 129) C dX10_years_129 ?_
              refine kj_bipush (pc := 131) C (v := 6) dX10_years_131 cb_6 ?_
              refine kj_isub (pc := 133) C dX10_years_133 ?_
              obtain ⟨q11, eq11, h⟩ := of_bind h
              refine kj_callV1 (pc := 134) C (ct_X10_isSinger eq11) (Nat.le_of_ble_eq_true rfl) mi_X10_isSinger ml_X10_119 rc_27 rfl rfl ar1 (Nat.le_of_ble_eq_true rfl) dX10_years_134 ?_
              refine kj_if_eq (pc := 137) C dX10_years_137 (tgt := 150) (by decide) (fun c12 => ?_) (fun c12 => ?_)
              · have h := of_pos c12 h
                refine kj_iconst (pc := 150) C (v := 0) dX10_years_150 ci_0 ?_
                exact k_X10_years_151 C hr hR ih _ _ _ _ _ _ _ _ h
              · have h := of_neg c12 h
                refine kj_iconst (pc := 140) C (v := 1) dX10_years_140 ci_1 ?_
                refine kj_ild4 (pc := 141) C dX10_years_141 ?_
                refine kj_bipush (pc := 143) C (v := 6) dX10_years_143 cb_6 ?_
                refine kj_isub (pc := 145) C dX10_years_145 ?_
                refine kj_ishl (pc := 146) C dX10_years_146 ?_
                refine kj_goto (pc := 147) C dX10_years_147 (tgt := 151) (by decide) ?_
                exact k_X10_years_151 C hr hR ih _ _ _ _ _ _ _ _ h
          · have h := of_neg c7 h
            refine kj_ald0 (pc := 95) C dX10_years_95 ?_
            refine kj_iconst (pc := 96) C (v := 2) dX10_years_96 ci_2 ?_
            refine kj_ild4 (pc := 97) C dX10_years_97 ?_
            refine kj_bipush (pc := 99) C (v := 12) dX10_years_99 cb_12 ?_
            refine kj_isub (pc := 101) C dX10_years_101 ?_
            refine kj_ild4 (pc := 102) C dX10_years_102 ?_
            refine kj_bipush (pc := 104) C (v := 11) dX10_years_104 cb_11 ?_
            refine kj_isub (pc := 106) C dX10_years_106 ?_
            obtain ⟨q13, eq13, h⟩ := of_bind h
            refine kj_callV1 (pc := 107) C (ct_X10_tryThing eq13) (Nat.le_of_ble_eq_true rfl) mi_X10_tryThing ml_X10_183 rc_27 rfl rfl ar3 (Nat.le_of_ble_eq_true rfl) dX10_years_107 ?_
            refine kj_pop (pc := 110) C dX10_years_110 rfl ?_
            refine kj_goto (pc := 111) C dX10_years_111 (tgt := 165) (by decide) ?_
            exact k_X10_years_165 C hr hR ih _ _ _ _ _ h
        · have h := of_pos c6 h
          refine kj_ald0 (pc := 80) C dX10_years_80 ?_
          refine kj_iconst (pc := 81) C (v := 1) dX10_years_81 ci_1 ?_
          obtain ⟨q14, eq14, h⟩ := of_bind h
          refine kj_callV0 (pc := 82) C (ct_X10_pitchOn eq14) (Nat.le_of_ble_eq_true rfl) mi_X10_pitchOn ml_X10_150 rc_27 rfl rfl ar1 (Nat.le_of_ble_eq_true rfl) dX10_years_82 ?_
          refine kj_goto (pc := 85) C dX10_years_85 (tgt := 165) (by decide) ?_
          exact k_X10_years_165 C hr hR ih _ _ _ _ _ h
      · have h := of_neg c5 h
        refine kj_ald0 (pc := 65) C dX10_years_65 ?_
        refine kj_iconst (pc := 66) C (v := 1) dX10_years_66 ci_1 ?_
        obtain ⟨q15, eq15, h⟩ := of_bind h
        refine kj_callV0 (pc := 67) C (ct_X10_passOn eq15) (Nat.le_of_ble_eq_true rfl) mi_X10_passOn ml_X10_134 rc_27 rfl rfl ar1 (Nat.le_of_ble_eq_true rfl) dX10_years_67 ?_
        refine kj_goto (pc := 70) C dX10_years_70 (tgt := 165) (by decide) ?_
        exact k_X10_years_165 C hr hR ih _ _ _ _ _ h
def f_X10_years (v1 : Int32) (M : Mem) : Option (Int32 × Mem) := (f_X10_in v1.toInt64 1 30 M).bind (fun q1 => if q1 = 0 then some (((-2) : Int32), M) else (f_X10_layTrial M).bind (fun q3 => f_X10_years_23 100 v1 0 0 q3))
set_option maxHeartbeats 4000000 in
set_option maxRecDepth 100000 in
theorem ct_X10_years {g : GT} {l : Launch} {v1 : Int32} {M : Mem} {t : Int32 × Mem} (h : f_X10_years v1 M = some t) : Ct g l 6 yX10_years cX10_years 5 (some .int) [.ref (ga g 27 0), .int v1] M (some (.int t.1)) t.2 := by
  refine ct_of (k := 3) (by decide) (Nat.le_of_ble_eq_true rfl) rfl (fun X C hl hr hR => ?_)
  subst hl
  have C : Cx g X cX10_years RX10 5 6 := C
  unfold f_X10_years at h
  refine kj_ild1 (pc := 0) C dX10_years_0 ?_
  refine kj_i2l (pc := 1) C dX10_years_1 ?_
  refine kj_lconst (pc := 2) C (v := 1) dX10_years_2 cl_1 ?_
  refine kj_ldc2 (pc := 3) C cn_X10_218 dX10_years_3 ?_
  obtain ⟨q1, eq1, h⟩ := of_bind h
  refine kj_callS1 (pc := 6) C (ct_X10_in eq1) (Nat.le_of_ble_eq_true rfl) mi_X10_in ml_X10_59 rfl as3 (Nat.le_of_ble_eq_true rfl) dX10_years_6 ?_
  refine kj_if_ne (pc := 9) C dX10_years_9 (tgt := 15) (by decide) (fun c2 => ?_) (fun c2 => ?_)
  · have h := of_neg c2 h
    refine kj_ald0 (pc := 15) C dX10_years_15 ?_
    obtain ⟨q3, eq3, h⟩ := of_bind h
    refine kj_callV0 (pc := 16) C (ct_X10_layTrial eq3) (Nat.le_of_ble_eq_true rfl) mi_X10_layTrial ml_X10_155 rc_27 rfl rfl ar0 (Nat.le_of_ble_eq_true rfl) dX10_years_16 ?_
    refine kj_iconst (pc := 19) C (v := 0) dX10_years_19 ci_0 ?_
    refine kj_ist2 (pc := 20) C dX10_years_20 (Nat.le_of_ble_eq_true rfl) rfl ?_
    refine kj_iconst (pc := 21) C (v := 0) dX10_years_21 ci_0 ?_
    refine kj_ist3 (pc := 22) C dX10_years_22 (Nat.le_of_ble_eq_true rfl) rfl ?_
    exact k_X10_years_23 C hr hR 100 _ _ _ _ _ h
  · have h := of_pos c2 h
    refine kj_bipush (pc := 12) C (v := (-2)) dX10_years_12 cb_m2 ?_
    cases h
    exact kj_iret (pc := 14) C hr hR dX10_years_14
def f_X10_keep_21 (n : Nat) (v1 : Int32) (v2 : Int32) (M : Mem) : Option (Int32 × Mem) := match n with
  | 0 => none
  | n + 1 => if 20 ≤ v2 then if ¬ ((19 : Int32) < 0 ∨ 40 ≤ (19 : Int32).toNatClampNeg) then some (M.1 27 4 (19 : Int32).toNatClampNeg, M) else none else if ¬ (v2 < 0 ∨ 40 ≤ v2.toNatClampNeg) then lt_ (((20 : Int32) * v1) + v2) (fun x5 => if ¬ (x5 < 0 ∨ 40 ≤ x5.toNatClampNeg) then lt_ (sw M 27 14 x5.toNatClampNeg (M.1 27 4 v2.toNatClampNeg)) (fun M6 => lt_ (v2 + 1) (fun x7 => f_X10_keep_21 n v1 x7 M6)) else none) else none
set_option maxHeartbeats 4000000 in
set_option maxRecDepth 100000 in
theorem k_X10_keep_21 {g : GT} {X : XT} {t : Int32 × Mem} (C : Cx g X cX10_keep RX10 3 1) (hr : (xt X).sig.returnType = some .int) (hR : Rt g X (some (.int t.1)) t.2) (n : Nat) : ∀ (v1 : Int32) (v2 : Int32) (M : Mem), f_X10_keep_21 n v1 v2 M = some t → Kj g X 3 21 [some (.ref (ga g 27 0)), some (.int v1), some (.int v2)] [] M := by
  induction n with
  | zero => intro v1 v2 M h; rw [f_X10_keep_21] at h; cases h
  | succ n ih =>
    intro v1 v2 M h
    rw [f_X10_keep_21] at h
    refine kj_ild2 (pc := 21) C dX10_keep_21 ?_
    refine kj_bipush (pc := 22) C (v := 20) dX10_keep_22 cb_20 ?_
    refine kj_icmp_ge (pc := 24) C dX10_keep_24 (tgt := 50) (by decide) (fun c1 => ?_) (fun c1 => ?_)
    · have h := of_pos c1 h
      refine kj_ald0 (pc := 50) C dX10_keep_50 ?_
      refine gf_X10_19 (pc := 51) C dX10_keep_51 ?_
      refine kj_bipush (pc := 54) C (v := 19) dX10_keep_54 cb_19 ?_
      obtain ⟨c2, h⟩ := of_gd h
      refine kj_iald2 (pc := 56) C ia_27_4 c2 dX10_keep_56 ?_
      cases h
      exact kj_iret (pc := 57) C hr hR dX10_keep_57
    · have h := of_neg c1 h
      refine kj_ald0 (pc := 27) C dX10_keep_27 ?_
      refine gf_X10_54 (pc := 28) C dX10_keep_28 ?_
      refine kj_bipush (pc := 31) C (v := 20) dX10_keep_31 cb_20 ?_
      refine kj_ild1 (pc := 33) C dX10_keep_33 ?_
      refine kj_imul (pc := 34) C dX10_keep_34 ?_
      refine kj_ild2 (pc := 35) C dX10_keep_35 ?_
      refine kj_iadd (pc := 36) C dX10_keep_36 ?_
      refine kj_ald0 (pc := 37) C dX10_keep_37 ?_
      refine gf_X10_19 (pc := 38) C dX10_keep_38 ?_
      refine kj_ild2 (pc := 41) C dX10_keep_41 ?_
      obtain ⟨c3, h⟩ := of_gd h
      refine kj_iald2 (pc := 42) C ia_27_4 c3 dX10_keep_42 ?_
      obtain ⟨x5, ex5, h⟩ := of_lt h
      refine kj_ni2 ex5 ?_
      obtain ⟨c4, h⟩ := of_gd h
      obtain ⟨M6, eM6, h⟩ := of_lt h
      refine kj_iast2 (pc := 43) C ia_27_14 c4 dX10_keep_43 ?_
      refine kj_nM eM6 ?_
      obtain ⟨x7, ex7, h⟩ := of_lt h
      refine kj_iinc2 (pc := 44) C (v := x7) dX10_keep_44 (Nat.le_of_ble_eq_true rfl) rfl (by rw [ex7, ci_1]) ?_
      refine kj_goto (pc := 47) C dX10_keep_47 (tgt := 21) (by decide) ?_
      exact ih _ _ _ h
def f_X10_keep (v1 : Int32) (M : Mem) : Option (Int32 × Mem) := (f_X10_in v1.toInt64 0 1 M).bind (fun q1 => if q1 = 0 then some (((-1) : Int32), M) else if ¬ (v1 < 0 ∨ 2 ≤ v1.toNatClampNeg) then lt_ (sw M 27 13 v1.toNatClampNeg 1) (fun M4 => f_X10_keep_21 100 v1 0 M4) else none)
set_option maxHeartbeats 4000000 in
set_option maxRecDepth 100000 in
theorem ct_X10_keep {g : GT} {l : Launch} {v1 : Int32} {M : Mem} {t : Int32 × Mem} (h : f_X10_keep v1 M = some t) : Ct g l 1 yX10_keep cX10_keep 3 (some .int) [.ref (ga g 27 0), .int v1] M (some (.int t.1)) t.2 := by
  refine ct_of (k := 1) (by decide) (Nat.le_of_ble_eq_true rfl) rfl (fun X C hl hr hR => ?_)
  subst hl
  have C : Cx g X cX10_keep RX10 3 1 := C
  unfold f_X10_keep at h
  refine kj_ild1 (pc := 0) C dX10_keep_0 ?_
  refine kj_i2l (pc := 1) C dX10_keep_1 ?_
  refine kj_lconst (pc := 2) C (v := 0) dX10_keep_2 cl_0 ?_
  refine kj_lconst (pc := 3) C (v := 1) dX10_keep_3 cl_1 ?_
  obtain ⟨q1, eq1, h⟩ := of_bind h
  refine kj_callS1 (pc := 4) C (ct_X10_in eq1) (Nat.le_of_ble_eq_true rfl) mi_X10_in ml_X10_59 rfl as3 (Nat.le_of_ble_eq_true rfl) dX10_keep_4 ?_
  refine kj_if_ne (pc := 7) C dX10_keep_7 (tgt := 12) (by decide) (fun c2 => ?_) (fun c2 => ?_)
  · have h := of_neg c2 h
    refine kj_ald0 (pc := 12) C dX10_keep_12 ?_
    refine gf_X10_50 (pc := 13) C dX10_keep_13 ?_
    refine kj_ild1 (pc := 16) C dX10_keep_16 ?_
    refine kj_iconst (pc := 17) C (v := 1) dX10_keep_17 ci_1 ?_
    obtain ⟨c3, h⟩ := of_gd h
    obtain ⟨M4, eM4, h⟩ := of_lt h
    refine kj_zast (pc := 18) C c3 rfl dX10_keep_18 ?_
    refine kj_nM eM4 ?_
    refine kj_iconst (pc := 19) C (v := 0) dX10_keep_19 ci_0 ?_
    refine kj_ist2 (pc := 20) C dX10_keep_20 (Nat.le_of_ble_eq_true rfl) rfl ?_
    exact k_X10_keep_21 C hr hR 100 _ _ _ h
  · have h := of_pos c2 h
    refine kj_iconst (pc := 10) C (v := (-1)) dX10_keep_10 ci_m1 ?_
    cases h
    exact kj_iret (pc := 11) C hr hR dX10_keep_11
def f_X10_again_26 (n : Nat) (v1 : Int32) (v2 : Int32) (M : Mem) : Option (Int32 × Mem) := match n with
  | 0 => none
  | n + 1 => if 20 ≤ v2 then lt_ (sw M 27 0 14 0) (fun M2 => if ¬ ((19 : Int32) < 0 ∨ 40 ≤ (19 : Int32).toNatClampNeg) then some (M2.1 27 4 (19 : Int32).toNatClampNeg, M2) else none) else lt_ (((20 : Int32) * v1) + v2) (fun x5 => if ¬ (x5 < 0 ∨ 40 ≤ x5.toNatClampNeg) then if ¬ (v2 < 0 ∨ 40 ≤ v2.toNatClampNeg) then lt_ (sw M 27 4 v2.toNatClampNeg (M.1 27 14 x5.toNatClampNeg)) (fun M7 => lt_ (v2 + 1) (fun x8 => f_X10_again_26 n v1 x8 M7)) else none else none)
set_option maxHeartbeats 4000000 in
set_option maxRecDepth 100000 in
theorem k_X10_again_26 {g : GT} {X : XT} {t : Int32 × Mem} (C : Cx g X cX10_again RX10 3 1) (hr : (xt X).sig.returnType = some .int) (hR : Rt g X (some (.int t.1)) t.2) (n : Nat) : ∀ (v1 : Int32) (v2 : Int32) (M : Mem), f_X10_again_26 n v1 v2 M = some t → Kj g X 3 26 [some (.ref (ga g 27 0)), some (.int v1), some (.int v2)] [] M := by
  induction n with
  | zero => intro v1 v2 M h; rw [f_X10_again_26] at h; cases h
  | succ n ih =>
    intro v1 v2 M h
    rw [f_X10_again_26] at h
    refine kj_ild2 (pc := 26) C dX10_again_26 ?_
    refine kj_bipush (pc := 27) C (v := 20) dX10_again_27 cb_20 ?_
    refine kj_icmp_ge (pc := 29) C dX10_again_29 (tgt := 55) (by decide) (fun c1 => ?_) (fun c1 => ?_)
    · have h := of_pos c1 h
      refine kj_ald0 (pc := 55) C dX10_again_55 ?_
      refine kj_iconst (pc := 56) C (v := 0) dX10_again_56 ci_0 ?_
      obtain ⟨M2, eM2, h⟩ := of_lt h
      refine pf_X10_99 (pc := 57) C dX10_again_57 ?_
      refine kj_nM eM2 ?_
      refine kj_ald0 (pc := 60) C dX10_again_60 ?_
      refine gf_X10_19 (pc := 61) C dX10_again_61 ?_
      refine kj_bipush (pc := 64) C (v := 19) dX10_again_64 cb_19 ?_
      obtain ⟨c3, h⟩ := of_gd h
      refine kj_iald2 (pc := 66) C ia_27_4 c3 dX10_again_66 ?_
      cases h
      exact kj_iret (pc := 67) C hr hR dX10_again_67
    · have h := of_neg c1 h
      refine kj_ald0 (pc := 32) C dX10_again_32 ?_
      refine gf_X10_19 (pc := 33) C dX10_again_33 ?_
      refine kj_ild2 (pc := 36) C dX10_again_36 ?_
      refine kj_ald0 (pc := 37) C dX10_again_37 ?_
      refine gf_X10_54 (pc := 38) C dX10_again_38 ?_
      refine kj_bipush (pc := 41) C (v := 20) dX10_again_41 cb_20 ?_
      refine kj_ild1 (pc := 43) C dX10_again_43 ?_
      refine kj_imul (pc := 44) C dX10_again_44 ?_
      refine kj_ild2 (pc := 45) C dX10_again_45 ?_
      refine kj_iadd (pc := 46) C dX10_again_46 ?_
      obtain ⟨x5, ex5, h⟩ := of_lt h
      refine kj_ni ex5 ?_
      obtain ⟨c4, h⟩ := of_gd h
      refine kj_iald2 (pc := 47) C ia_27_14 c4 dX10_again_47 ?_
      obtain ⟨c6, h⟩ := of_gd h
      obtain ⟨M7, eM7, h⟩ := of_lt h
      refine kj_iast2 (pc := 48) C ia_27_4 c6 dX10_again_48 ?_
      refine kj_nM eM7 ?_
      obtain ⟨x8, ex8, h⟩ := of_lt h
      refine kj_iinc2 (pc := 49) C (v := x8) dX10_again_49 (Nat.le_of_ble_eq_true rfl) rfl (by rw [ex8, ci_1]) ?_
      refine kj_goto (pc := 52) C dX10_again_52 (tgt := 26) (by decide) ?_
      exact ih _ _ _ h
def f_X10_again (v1 : Int32) (M : Mem) : Option (Int32 × Mem) := (f_X10_in v1.toInt64 0 1 M).bind (fun q1 => if q1 = 0 then some (((-1) : Int32), M) else if ¬ (v1 < 0 ∨ 2 ≤ v1.toNatClampNeg) then if (M.1 27 13 v1.toNatClampNeg) = 0 then some (((-3) : Int32), M) else f_X10_again_26 100 v1 0 M else none)
set_option maxHeartbeats 4000000 in
set_option maxRecDepth 100000 in
theorem ct_X10_again {g : GT} {l : Launch} {v1 : Int32} {M : Mem} {t : Int32 × Mem} (h : f_X10_again v1 M = some t) : Ct g l 1 yX10_again cX10_again 3 (some .int) [.ref (ga g 27 0), .int v1] M (some (.int t.1)) t.2 := by
  refine ct_of (k := 1) (by decide) (Nat.le_of_ble_eq_true rfl) rfl (fun X C hl hr hR => ?_)
  subst hl
  have C : Cx g X cX10_again RX10 3 1 := C
  unfold f_X10_again at h
  refine kj_ild1 (pc := 0) C dX10_again_0 ?_
  refine kj_i2l (pc := 1) C dX10_again_1 ?_
  refine kj_lconst (pc := 2) C (v := 0) dX10_again_2 cl_0 ?_
  refine kj_lconst (pc := 3) C (v := 1) dX10_again_3 cl_1 ?_
  obtain ⟨q1, eq1, h⟩ := of_bind h
  refine kj_callS1 (pc := 4) C (ct_X10_in eq1) (Nat.le_of_ble_eq_true rfl) mi_X10_in ml_X10_59 rfl as3 (Nat.le_of_ble_eq_true rfl) dX10_again_4 ?_
  refine kj_if_ne (pc := 7) C dX10_again_7 (tgt := 12) (by decide) (fun c2 => ?_) (fun c2 => ?_)
  · have h := of_neg c2 h
    refine kj_ald0 (pc := 12) C dX10_again_12 ?_
    refine gf_X10_50 (pc := 13) C dX10_again_13 ?_
    refine kj_ild1 (pc := 16) C dX10_again_16 ?_
    obtain ⟨c3, h⟩ := of_gd h
    refine kj_zald (pc := 17) C c3 dX10_again_17 ?_
    refine kj_if_ne (pc := 18) C dX10_again_18 (tgt := 24) (by decide) (fun c4 => ?_) (fun c4 => ?_)
    · have h := of_neg c4 h
      refine kj_iconst (pc := 24) C (v := 0) dX10_again_24 ci_0 ?_
      refine kj_ist2 (pc := 25) C dX10_again_25 (Nat.le_of_ble_eq_true rfl) rfl ?_
      exact k_X10_again_26 C hr hR 100 _ _ _ h
    · have h := of_pos c4 h
      refine kj_bipush (pc := 21) C (v := (-3)) dX10_again_21 cb_m3 ?_
      cases h
      exact kj_iret (pc := 23) C hr hR dX10_again_23
  · have h := of_pos c2 h
    refine kj_iconst (pc := 10) C (v := (-1)) dX10_again_10 ci_m1 ?_
    cases h
    exact kj_iret (pc := 11) C hr hR dX10_again_11
def f_X10_takenSeats_4 (M : Mem) (n : Nat) (v1 : Int32) (v2 : Int32) : Option (Int32) := match n with
  | 0 => none
  | n + 1 => if (M.1 27 0 0) ≤ v2 then some v1 else if ¬ (v2 < 0 ∨ 40 ≤ v2.toNatClampNeg) then lt_ (v1 ||| ((1 : Int32) <<< ((M.1 27 4 v2.toNatClampNeg) &&& 31))) (fun x3 => lt_ (v2 + 1) (fun x4 => f_X10_takenSeats_4 M n x3 x4)) else none
set_option maxHeartbeats 4000000 in
set_option maxRecDepth 100000 in
theorem k_X10_takenSeats_4 {g : GT} {X : XT} {M : Mem} {t : Int32} (C : Cx g X cX10_takenSeats RX10 3 0) (hr : (xt X).sig.returnType = some .int) (hR : Rt g X (some (.int t)) M) (n : Nat) : ∀ (v1 : Int32) (v2 : Int32), f_X10_takenSeats_4 M n v1 v2 = some t → Kj g X 3 4 [some (.ref (ga g 27 0)), some (.int v1), some (.int v2)] [] M := by
  induction n with
  | zero => intro v1 v2 h; rw [f_X10_takenSeats_4] at h; cases h
  | succ n ih =>
    intro v1 v2 h
    rw [f_X10_takenSeats_4] at h
    refine kj_ild2 (pc := 4) C dX10_takenSeats_4 ?_
    refine kj_ald0 (pc := 5) C dX10_takenSeats_5 ?_
    refine gf_X10_96 (pc := 6) C dX10_takenSeats_6 ?_
    refine kj_icmp_ge (pc := 9) C dX10_takenSeats_9 (tgt := 29) (by decide) (fun c1 => ?_) (fun c1 => ?_)
    · have h := of_pos c1 h
      refine kj_ild1 (pc := 29) C dX10_takenSeats_29 ?_
      cases h
      exact kj_iret (pc := 30) C hr hR dX10_takenSeats_30
    · have h := of_neg c1 h
      refine kj_ild1 (pc := 12) C dX10_takenSeats_12 ?_
      refine kj_iconst (pc := 13) C (v := 1) dX10_takenSeats_13 ci_1 ?_
      refine kj_ald0 (pc := 14) C dX10_takenSeats_14 ?_
      refine gf_X10_19 (pc := 15) C dX10_takenSeats_15 ?_
      refine kj_ild2 (pc := 18) C dX10_takenSeats_18 ?_
      obtain ⟨c2, h⟩ := of_gd h
      refine kj_iald2 (pc := 19) C ia_27_4 c2 dX10_takenSeats_19 ?_
      refine kj_ishl (pc := 20) C dX10_takenSeats_20 ?_
      refine kj_ior (pc := 21) C dX10_takenSeats_21 ?_
      obtain ⟨x3, ex3, h⟩ := of_lt h
      refine kj_ni ex3 ?_
      refine kj_ist1 (pc := 22) C dX10_takenSeats_22 (Nat.le_of_ble_eq_true rfl) rfl ?_
      obtain ⟨x4, ex4, h⟩ := of_lt h
      refine kj_iinc2 (pc := 23) C (v := x4) dX10_takenSeats_23 (Nat.le_of_ble_eq_true rfl) rfl (by rw [ex4, ci_1]) ?_
      refine kj_goto (pc := 26) C dX10_takenSeats_26 (tgt := 4) (by decide) ?_
      exact ih _ _ h
def f_X10_takenSeats (M : Mem) : Option (Int32) := f_X10_takenSeats_4 M 100 0 0
set_option maxHeartbeats 4000000 in
set_option maxRecDepth 100000 in
theorem ct_X10_takenSeats {g : GT} {l : Launch} {M : Mem} {t : Int32} (h : f_X10_takenSeats M = some t) : Ct g l 0 yX10_takenSeats cX10_takenSeats 3 (some .int) [.ref (ga g 27 0)] M (some (.int t)) M := by
  refine ct_of (k := 2) (by decide) (Nat.le_of_ble_eq_true rfl) rfl (fun X C hl hr hR => ?_)
  subst hl
  have C : Cx g X cX10_takenSeats RX10 3 0 := C
  unfold f_X10_takenSeats at h
  refine kj_iconst (pc := 0) C (v := 0) dX10_takenSeats_0 ci_0 ?_
  refine kj_ist1 (pc := 1) C dX10_takenSeats_1 (Nat.le_of_ble_eq_true rfl) rfl ?_
  refine kj_iconst (pc := 2) C (v := 0) dX10_takenSeats_2 ci_0 ?_
  refine kj_ist2 (pc := 3) C dX10_takenSeats_3 (Nat.le_of_ble_eq_true rfl) rfl ?_
  exact k_X10_takenSeats_4 C hr hR 100 _ _ h
def f_X10_goodsOfAll_4 (M : Mem) (n : Nat) (v1 : Int32) (v2 : Int32) : Option (Int32) := match n with
  | 0 => none
  | n + 1 => if (M.1 27 0 0) ≤ v2 then some v1 else lt_ ((6 : Int32) + v2) (fun x3 => if ¬ (x3 < 0 ∨ 40 ≤ x3.toNatClampNeg) then lt_ (v1 + (M.1 27 4 x3.toNatClampNeg)) (fun x4 => lt_ (v2 + 1) (fun x5 => f_X10_goodsOfAll_4 M n x4 x5)) else none)
set_option maxHeartbeats 4000000 in
set_option maxRecDepth 100000 in
theorem k_X10_goodsOfAll_4 {g : GT} {X : XT} {M : Mem} {t : Int32} (C : Cx g X cX10_goodsOfAll RX10 3 0) (hr : (xt X).sig.returnType = some .int) (hR : Rt g X (some (.int t)) M) (n : Nat) : ∀ (v1 : Int32) (v2 : Int32), f_X10_goodsOfAll_4 M n v1 v2 = some t → Kj g X 3 4 [some (.ref (ga g 27 0)), some (.int v1), some (.int v2)] [] M := by
  induction n with
  | zero => intro v1 v2 h; rw [f_X10_goodsOfAll_4] at h; cases h
  | succ n ih =>
    intro v1 v2 h
    rw [f_X10_goodsOfAll_4] at h
    refine kj_ild2 (pc := 4) C dX10_goodsOfAll_4 ?_
    refine kj_ald0 (pc := 5) C dX10_goodsOfAll_5 ?_
    refine gf_X10_96 (pc := 6) C dX10_goodsOfAll_6 ?_
    refine kj_icmp_ge (pc := 9) C dX10_goodsOfAll_9 (tgt := 30) (by decide) (fun c1 => ?_) (fun c1 => ?_)
    · have h := of_pos c1 h
      refine kj_ild1 (pc := 30) C dX10_goodsOfAll_30 ?_
      cases h
      exact kj_iret (pc := 31) C hr hR dX10_goodsOfAll_31
    · have h := of_neg c1 h
      refine kj_ild1 (pc := 12) C dX10_goodsOfAll_12 ?_
      refine kj_ald0 (pc := 13) C dX10_goodsOfAll_13 ?_
      refine gf_X10_19 (pc := 14) C dX10_goodsOfAll_14 ?_
      refine kj_bipush (pc := 17) C (v := 6) dX10_goodsOfAll_17 cb_6 ?_
      refine kj_ild2 (pc := 19) C dX10_goodsOfAll_19 ?_
      refine kj_iadd (pc := 20) C dX10_goodsOfAll_20 ?_
      obtain ⟨x3, ex3, h⟩ := of_lt h
      refine kj_ni ex3 ?_
      obtain ⟨c2, h⟩ := of_gd h
      refine kj_iald2 (pc := 21) C ia_27_4 c2 dX10_goodsOfAll_21 ?_
      refine kj_iadd (pc := 22) C dX10_goodsOfAll_22 ?_
      obtain ⟨x4, ex4, h⟩ := of_lt h
      refine kj_ni ex4 ?_
      refine kj_ist1 (pc := 23) C dX10_goodsOfAll_23 (Nat.le_of_ble_eq_true rfl) rfl ?_
      obtain ⟨x5, ex5, h⟩ := of_lt h
      refine kj_iinc2 (pc := 24) C (v := x5) dX10_goodsOfAll_24 (Nat.le_of_ble_eq_true rfl) rfl (by rw [ex5, ci_1]) ?_
      refine kj_goto (pc := 27) C dX10_goodsOfAll_27 (tgt := 4) (by decide) ?_
      exact ih _ _ h
def f_X10_goodsOfAll (M : Mem) : Option (Int32) := f_X10_goodsOfAll_4 M 100 0 0
set_option maxHeartbeats 4000000 in
set_option maxRecDepth 100000 in
theorem ct_X10_goodsOfAll {g : GT} {l : Launch} {M : Mem} {t : Int32} (h : f_X10_goodsOfAll M = some t) : Ct g l 0 yX10_goodsOfAll cX10_goodsOfAll 3 (some .int) [.ref (ga g 27 0)] M (some (.int t)) M := by
  refine ct_of (k := 2) (by decide) (Nat.le_of_ble_eq_true rfl) rfl (fun X C hl hr hR => ?_)
  subst hl
  have C : Cx g X cX10_goodsOfAll RX10 3 0 := C
  unfold f_X10_goodsOfAll at h
  refine kj_iconst (pc := 0) C (v := 0) dX10_goodsOfAll_0 ci_0 ?_
  refine kj_ist1 (pc := 1) C dX10_goodsOfAll_1 (Nat.le_of_ble_eq_true rfl) rfl ?_
  refine kj_iconst (pc := 2) C (v := 0) dX10_goodsOfAll_2 ci_0 ?_
  refine kj_ist2 (pc := 3) C dX10_goodsOfAll_3 (Nat.le_of_ble_eq_true rfl) rfl ?_
  exact k_X10_goodsOfAll_4 C hr hR 100 _ _ h
def f_X10_jealous_31 (M : Mem) (k4 : Int32 → Int32 → Option (Int32)) (v2 : Int32) (s0 : Int32) (s1 : Int32) : Option (Int32) := lt_ (s0 ||| s1) (fun x1 => lt_ (v2 + 1) (fun x2 => k4 x1 x2))
set_option maxHeartbeats 4000000 in
set_option maxRecDepth 100000 in
theorem k_X10_jealous_31 {g : GT} {X : XT} {M : Mem} {k4 : Int32 → Int32 → Option (Int32)} {t : Int32} (C : Cx g X cX10_jealous RX10 3 3) (hr : (xt X).sig.returnType = some .int) (hR : Rt g X (some (.int t)) M) (hk4 : ∀ (v1 : Int32) (v2 : Int32), k4 v1 v2 = some t → Kj g X 3 4 [some (.ref (ga g 27 0)), some (.int v1), some (.int v2)] [] M) : ∀ (v2 : Int32) (s0 : Int32) (s1 : Int32) (w1 : Option Value), f_X10_jealous_31 M k4 v2 s0 s1 = some t → Kj g X 3 31 [some (.ref (ga g 27 0)), w1, some (.int v2)] [.int s1, .int s0] M := by
  intro v2 s0 s1 w1 h
  unfold f_X10_jealous_31 at h
  refine kj_ior (pc := 31) C dX10_jealous_31 ?_
  obtain ⟨x1, ex1, h⟩ := of_lt h
  refine kj_ni ex1 ?_
  refine kj_ist1 (pc := 32) C dX10_jealous_32 (Nat.le_of_ble_eq_true rfl) rfl ?_
  obtain ⟨x2, ex2, h⟩ := of_lt h
  refine kj_iinc2 (pc := 33) C (v := x2) dX10_jealous_33 (Nat.le_of_ble_eq_true rfl) rfl (by rw [ex2, ci_1]) ?_
  refine kj_goto (pc := 36) C dX10_jealous_36 (tgt := 4) (by decide) ?_
  exact hk4 _ _ h
def f_X10_jealous_4 (M : Mem) (n : Nat) (v1 : Int32) (v2 : Int32) : Option (Int32) := match n with
  | 0 => none
  | n + 1 => if (M.1 27 0 0) ≤ v2 then some v1 else (f_X10_enviesOf 0 v2 M).bind (fun q2 => if q2 = (-9) then f_X10_jealous_31 M (f_X10_jealous_4 M n) v2 v1 0 else f_X10_jealous_31 M (f_X10_jealous_4 M n) v2 v1 ((1 : Int32) <<< (v2 &&& 31)))
set_option maxHeartbeats 4000000 in
set_option maxRecDepth 100000 in
theorem k_X10_jealous_4 {g : GT} {X : XT} {M : Mem} {t : Int32} (C : Cx g X cX10_jealous RX10 3 3) (hr : (xt X).sig.returnType = some .int) (hR : Rt g X (some (.int t)) M) (n : Nat) : ∀ (v1 : Int32) (v2 : Int32), f_X10_jealous_4 M n v1 v2 = some t → Kj g X 3 4 [some (.ref (ga g 27 0)), some (.int v1), some (.int v2)] [] M := by
  induction n with
  | zero => intro v1 v2 h; rw [f_X10_jealous_4] at h; cases h
  | succ n ih =>
    intro v1 v2 h
    rw [f_X10_jealous_4] at h
    refine kj_ild2 (pc := 4) C dX10_jealous_4 ?_
    refine kj_ald0 (pc := 5) C dX10_jealous_5 ?_
    refine gf_X10_96 (pc := 6) C dX10_jealous_6 ?_
    refine kj_icmp_ge (pc := 9) C dX10_jealous_9 (tgt := 39) (by decide) (fun c1 => ?_) (fun c1 => ?_)
    · have h := of_pos c1 h
      refine kj_ild1 (pc := 39) C dX10_jealous_39 ?_
      cases h
      exact kj_iret (pc := 40) C hr hR dX10_jealous_40
    · have h := of_neg c1 h
      refine kj_ild1 (pc := 12) C dX10_jealous_12 ?_
      refine kj_ald0 (pc := 13) C dX10_jealous_13 ?_
      refine kj_iconst (pc := 14) C (v := 0) dX10_jealous_14 ci_0 ?_
      refine kj_ild2 (pc := 15) C dX10_jealous_15 ?_
      obtain ⟨q2, eq2, h⟩ := of_bind h
      refine kj_callV1 (pc := 16) C (ct_X10_enviesOf eq2) (Nat.le_of_ble_eq_true rfl) mi_X10_enviesOf ml_X10_113 rc_27 rfl rfl ar2 (Nat.le_of_ble_eq_true rfl) dX10_jealous_16 ?_
      refine kj_bipush (pc := 19) C (v := (-9)) dX10_jealous_19 cb_m9 ?_
      refine kj_icmp_ne (pc := 21) C dX10_jealous_21 (tgt := 28) (by decide) (fun c3 => ?_) (fun c3 => ?_)
      · have h := of_neg c3 h
        refine kj_iconst (pc := 28) C (v := 1) dX10_jealous_28 ci_1 ?_
        refine kj_ild2 (pc := 29) C dX10_jealous_29 ?_
        refine kj_ishl (pc := 30) C dX10_jealous_30 ?_
        exact k_X10_jealous_31 C hr hR ih _ _ _ _ h
      · have h := of_pos c3 h
        refine kj_iconst (pc := 24) C (v := 0) dX10_jealous_24 ci_0 ?_
        refine kj_goto (pc := 25) C dX10_jealous_25 (tgt := 31) (by decide) ?_
        exact k_X10_jealous_31 C hr hR ih _ _ _ _ h
def f_X10_jealous (M : Mem) : Option (Int32) := f_X10_jealous_4 M 100 0 0
set_option maxHeartbeats 4000000 in
set_option maxRecDepth 100000 in
theorem ct_X10_jealous {g : GT} {l : Launch} {M : Mem} {t : Int32} (h : f_X10_jealous M = some t) : Ct g l 3 yX10_jealous cX10_jealous 3 (some .int) [.ref (ga g 27 0)] M (some (.int t)) M := by
  refine ct_of (k := 2) (by decide) (Nat.le_of_ble_eq_true rfl) rfl (fun X C hl hr hR => ?_)
  subst hl
  have C : Cx g X cX10_jealous RX10 3 3 := C
  unfold f_X10_jealous at h
  refine kj_iconst (pc := 0) C (v := 0) dX10_jealous_0 ci_0 ?_
  refine kj_ist1 (pc := 1) C dX10_jealous_1 (Nat.le_of_ble_eq_true rfl) rfl ?_
  refine kj_iconst (pc := 2) C (v := 0) dX10_jealous_2 ci_0 ?_
  refine kj_ist2 (pc := 3) C dX10_jealous_3 (Nat.le_of_ble_eq_true rfl) rfl ?_
  exact k_X10_jealous_4 C hr hR 100 _ _ h
def f_X10_count (v1 : Int32) (M : Mem) : Option (Int32) := if v1 = 0 then some (M.1 27 0 9) else if v1 = 1 then some (M.1 27 0 0) else if v1 = 2 then if ¬ ((19 : Int32) < 0 ∨ 40 ≤ (19 : Int32).toNatClampNeg) then some (M.1 27 4 (19 : Int32).toNatClampNeg) else none else if v1 = 3 then (f_X10_takenSeats M).bind (fun q5 => some q5) else if v1 = 4 then (f_X10_notesOn 0 M).bind (fun q7 => some q7) else if v1 = 5 then (f_X10_goodsOfAll M).bind (fun q9 => some q9) else if v1 = 6 then (f_X10_jealous M).bind (fun q11 => some q11) else if v1 = 7 then if ¬ ((18 : Int32) < 0 ∨ 40 ≤ (18 : Int32).toNatClampNeg) then some (M.1 27 4 (18 : Int32).toNatClampNeg) else none else if v1 = 8 then some (M.1 27 0 14) else if v1 = 9 then some (M.1 27 0 18) else some ((-2) : Int32)
set_option maxHeartbeats 4000000 in
set_option maxRecDepth 100000 in
theorem ct_X10_count {g : GT} {l : Launch} {v1 : Int32} {M : Mem} {t : Int32} (h : f_X10_count v1 M = some t) : Ct g l 4 yX10_count cX10_count 2 (some .int) [.ref (ga g 27 0), .int v1] M (some (.int t)) M := by
  refine ct_of (k := 0) (by decide) (Nat.le_of_ble_eq_true rfl) rfl (fun X C hl hr hR => ?_)
  subst hl
  have C : Cx g X cX10_count RX10 2 4 := C
  unfold f_X10_count at h
  refine kj_ild1 (pc := 0) C dX10_count_0 ?_
  rcases Classical.em (v1 = 0) with c1 | c1
  · have h := of_pos c1 h
    refine kj_tsIn (pc := 1) C (off := 55) (tgt := 56) dX10_count_1 (by rw [c1]; decide) (by rw [c1]; decide) (by rw [c1]; decide) (by decide) ?_
    refine kj_ald0 (pc := 56) C dX10_count_56 ?_
    refine gf_X10_63 (pc := 57) C dX10_count_57 ?_
    cases h
    exact kj_iret (pc := 60) C hr hR dX10_count_60
  · have h := of_neg c1 h
    rcases Classical.em (v1 = 1) with c2 | c2
    · have h := of_pos c2 h
      refine kj_tsIn (pc := 1) C (off := 60) (tgt := 61) dX10_count_1 (by rw [c2]; decide) (by rw [c2]; decide) (by rw [c2]; decide) (by decide) ?_
      refine kj_ald0 (pc := 61) C dX10_count_61 ?_
      refine gf_X10_96 (pc := 62) C dX10_count_62 ?_
      cases h
      exact kj_iret (pc := 65) C hr hR dX10_count_65
    · have h := of_neg c2 h
      rcases Classical.em (v1 = 2) with c4 | c4
      · have h := of_pos c4 h
        refine kj_tsIn (pc := 1) C (off := 65) (tgt := 66) dX10_count_1 (by rw [c4]; decide) (by rw [c4]; decide) (by rw [c4]; decide) (by decide) ?_
        refine kj_ald0 (pc := 66) C dX10_count_66 ?_
        refine gf_X10_19 (pc := 67) C dX10_count_67 ?_
        refine kj_bipush (pc := 70) C (v := 19) dX10_count_70 cb_19 ?_
        obtain ⟨c3, h⟩ := of_gd h
        refine kj_iald2 (pc := 72) C ia_27_4 c3 dX10_count_72 ?_
        cases h
        exact kj_iret (pc := 73) C hr hR dX10_count_73
      · have h := of_neg c4 h
        rcases Classical.em (v1 = 3) with c6 | c6
        · have h := of_pos c6 h
          refine kj_tsIn (pc := 1) C (off := 73) (tgt := 74) dX10_count_1 (by rw [c6]; decide) (by rw [c6]; decide) (by rw [c6]; decide) (by decide) ?_
          refine kj_ald0 (pc := 74) C dX10_count_74 ?_
          obtain ⟨q5, eq5, h⟩ := of_bind h
          refine kj_callV1 (pc := 75) C (ct_X10_takenSeats eq5) (Nat.le_of_ble_eq_true rfl) mi_X10_takenSeats ml_X10_226 rc_27 rfl rfl ar0 (Nat.le_of_ble_eq_true rfl) dX10_count_75 ?_
          cases h
          exact kj_iret (pc := 78) C hr hR dX10_count_78
        · have h := of_neg c6 h
          rcases Classical.em (v1 = 4) with c8 | c8
          · have h := of_pos c8 h
            refine kj_tsIn (pc := 1) C (off := 78) (tgt := 79) dX10_count_1 (by rw [c8]; decide) (by rw [c8]; decide) (by rw [c8]; decide) (by decide) ?_
            refine kj_ald0 (pc := 79) C dX10_count_79 ?_
            refine kj_iconst (pc := 80) C (v := 0) dX10_count_80 ci_0 ?_
            obtain ⟨q7, eq7, h⟩ := of_bind h
            refine kj_callV1 (pc := 81) C (ct_X10_notesOn eq7) (Nat.le_of_ble_eq_true rfl) mi_X10_notesOn ml_X10_137 rc_27 rfl rfl ar1 (Nat.le_of_ble_eq_true rfl) dX10_count_81 ?_
            cases h
            exact kj_iret (pc := 84) C hr hR dX10_count_84
          · have h := of_neg c8 h
            rcases Classical.em (v1 = 5) with c10 | c10
            · have h := of_pos c10 h
              refine kj_tsIn (pc := 1) C (off := 84) (tgt := 85) dX10_count_1 (by rw [c10]; decide) (by rw [c10]; decide) (by rw [c10]; decide) (by decide) ?_
              refine kj_ald0 (pc := 85) C dX10_count_85 ?_
              obtain ⟨q9, eq9, h⟩ := of_bind h
              refine kj_callV1 (pc := 86) C (ct_X10_goodsOfAll eq9) (Nat.le_of_ble_eq_true rfl) mi_X10_goodsOfAll ml_X10_229 rc_27 rfl rfl ar0 (Nat.le_of_ble_eq_true rfl) dX10_count_86 ?_
              cases h
              exact kj_iret (pc := 89) C hr hR dX10_count_89
            · have h := of_neg c10 h
              rcases Classical.em (v1 = 6) with c12 | c12
              · have h := of_pos c12 h
                refine kj_tsIn (pc := 1) C (off := 89) (tgt := 90) dX10_count_1 (by rw [c12]; decide) (by rw [c12]; decide) (by rw [c12]; decide) (by decide) ?_
                refine kj_ald0 (pc := 90) C dX10_count_90 ?_
                obtain ⟨q11, eq11, h⟩ := of_bind h
                refine kj_callV1 (pc := 91) C (ct_X10_jealous eq11) (Nat.le_of_ble_eq_true rfl) mi_X10_jealous ml_X10_232 rc_27 rfl rfl ar0 (Nat.le_of_ble_eq_true rfl) dX10_count_91 ?_
                cases h
                exact kj_iret (pc := 94) C hr hR dX10_count_94
              · have h := of_neg c12 h
                rcases Classical.em (v1 = 7) with c14 | c14
                · have h := of_pos c14 h
                  refine kj_tsIn (pc := 1) C (off := 94) (tgt := 95) dX10_count_1 (by rw [c14]; decide) (by rw [c14]; decide) (by rw [c14]; decide) (by decide) ?_
                  refine kj_ald0 (pc := 95) C dX10_count_95 ?_
                  refine gf_X10_19 (pc := 96) C dX10_count_96 ?_
                  refine kj_bipush (pc := 99) C (v := 18) dX10_count_99 cb_18 ?_
                  obtain ⟨c13, h⟩ := of_gd h
                  refine kj_iald2 (pc := 101) C ia_27_4 c13 dX10_count_101 ?_
                  cases h
                  exact kj_iret (pc := 102) C hr hR dX10_count_102
                · have h := of_neg c14 h
                  rcases Classical.em (v1 = 8) with c15 | c15
                  · have h := of_pos c15 h
                    refine kj_tsIn (pc := 1) C (off := 102) (tgt := 103) dX10_count_1 (by rw [c15]; decide) (by rw [c15]; decide) (by rw [c15]; decide) (by decide) ?_
                    refine kj_ald0 (pc := 103) C dX10_count_103 ?_
                    refine gf_X10_99 (pc := 104) C dX10_count_104 ?_
                    cases h
                    exact kj_iret (pc := 107) C hr hR dX10_count_107
                  · have h := of_neg c15 h
                    rcases Classical.em (v1 = 9) with c16 | c16
                    · have h := of_pos c16 h
                      refine kj_tsIn (pc := 1) C (off := 107) (tgt := 108) dX10_count_1 (by rw [c16]; decide) (by rw [c16]; decide) (by rw [c16]; decide) (by decide) ?_
                      refine kj_ald0 (pc := 108) C dX10_count_108 ?_
                      refine gf_X10_187 (pc := 109) C dX10_count_109 ?_
                      cases h
                      exact kj_iret (pc := 112) C hr hR dX10_count_112
                    · have h := of_neg c16 h
                      refine kj_tsOut (pc := 1) C (tgt := 113) dX10_count_1 (ts_out9 c1 c2 c4 c6 c8 c10 c12 c14 c15 c16) (by decide) ?_
                      refine kj_bipush (pc := 113) C (v := (-2)) dX10_count_113 cb_m2 ?_
                      cases h
                      exact kj_iret (pc := 115) C hr hR dX10_count_115
