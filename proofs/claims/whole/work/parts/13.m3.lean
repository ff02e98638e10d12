def f_X5_canStand_103 (M : Mem) (s0 : Int32) : Option (Int32) := if s0 = 0 ∨ s0 = 1 then some s0 else none
set_option maxHeartbeats 4000000 in
set_option maxRecDepth 100000 in
theorem k_X5_canStand_103 {g : GT} {X : XT} {M : Mem} {t : Int32} (C : Cx g X cX5_canStand RX5 4 1) (hr : (xt X).sig.returnType = some .boolean) (hR : Rt g X (some (.int t)) M) : ∀ (s0 : Int32) (w0 w1 w2 w3 : Option Value), f_X5_canStand_103 M s0 = some t → Kj g X 4 103 [w0, w1, w2, w3] [.int s0] M := by
  intro s0 w0 w1 w2 w3 h
  unfold f_X5_canStand_103 at h
  obtain ⟨c1, h⟩ := of_gd h
  cases h
  exact kj_zret (pc := 103) C hr c1 hR dX5_canStand_103
def f_X5_canStand_102 (M : Mem) : Option (Int32) := f_X5_canStand_103 M 0
set_option maxHeartbeats 4000000 in
set_option maxRecDepth 100000 in
theorem k_X5_canStand_102 {g : GT} {X : XT} {M : Mem} {t : Int32} (C : Cx g X cX5_canStand RX5 4 1) (hr : (xt X).sig.returnType = some .boolean) (hR : Rt g X (some (.int t)) M) : ∀ (w0 w1 w2 w3 : Option Value), f_X5_canStand_102 M = some t → Kj g X 4 102 [w0, w1, w2, w3] [] M := by
  intro w0 w1 w2 w3 h
  unfold f_X5_canStand_102 at h
  refine kj_iconst (pc := 102) C (v := 0) dX5_canStand_102 ci_0 ?_
  exact k_X5_canStand_103 C hr hR _ _ _ _ _ h
def f_X5_canStand_79 (M : Mem) (s0 : Int32) : Option (Int32) := if s0 = 0 ∨ s0 = 1 then some s0 else none
set_option maxHeartbeats 4000000 in
set_option maxRecDepth 100000 in
theorem k_X5_canStand_79 {g : GT} {X : XT} {M : Mem} {t : Int32} (C : Cx g X cX5_canStand RX5 4 1) (hr : (xt X).sig.returnType = some .boolean) (hR : Rt g X (some (.int t)) M) : ∀ (s0 : Int32) (w0 w1 w2 w3 : Option Value), f_X5_canStand_79 M s0 = some t → Kj g X 4 79 [w0, w1, w2, w3] [.int s0] M := by
  intro s0 w0 w1 w2 w3 h
  unfold f_X5_canStand_79 at h
  obtain ⟨c1, h⟩ := of_gd h
  cases h
  exact kj_zret (pc := 79) C hr c1 hR dX5_canStand_79
def f_X5_canStand_15 (M : Mem) (s0 : Int32) : Option (Int32) := if s0 = 0 ∨ s0 = 1 then some s0 else none
set_option maxHeartbeats 4000000 in
set_option maxRecDepth 100000 in
theorem k_X5_canStand_15 {g : GT} {X : XT} {M : Mem} {t : Int32} (C : Cx g X cX5_canStand RX5 4 1) (hr : (xt X).sig.returnType = some .boolean) (hR : Rt g X (some (.int t)) M) : ∀ (s0 : Int32) (w0 w1 w2 w3 : Option Value), f_X5_canStand_15 M s0 = some t → Kj g X 4 15 [w0, w1, w2, w3] [.int s0] M := by
  intro s0 w0 w1 w2 w3 h
  unfold f_X5_canStand_15 at h
  obtain ⟨c1, h⟩ := of_gd h
  cases h
  exact kj_zret (pc := 15) C hr c1 hR dX5_canStand_15
def f_X5_canStand (v0 : Int32) (v1 : Int32) (v2 : Int32) (M : Mem) : Option (Int32) := if v0 = 0 then if v1 = 67 then f_X5_canStand_15 M 1 else f_X5_canStand_15 M 0 else if v0 ≤ 36 then lt_ (v1 - (48 : Int32)) (fun x3 => (f_X5_part v0 M).bind (fun q4 => if q4 = 0 then if v1 = 83 then f_X5_canStand_79 M 1 else f_X5_canStand_79 M 0 else if q4 = 1 then (f_X9_isWithin x3 0 7 M).bind (fun q7 => if q7 = 0 then f_X5_canStand_102 M else if ((v2 >>> (x3 &&& 31)) &&& (1 : Int32)) = 0 then f_X5_canStand_103 M 1 else f_X5_canStand_102 M) else if q4 = 5 then (f_X9_isWithin x3 0 3 M).bind (fun q11 => if q11 = 0 ∨ q11 = 1 then some q11 else none) else (f_X9_isWithin x3 0 9 M).bind (fun q14 => if q14 = 0 ∨ q14 = 1 then some q14 else none))) else some (0 : Int32)
set_option maxHeartbeats 4000000 in
set_option maxRecDepth 100000 in
theorem ct_X5_canStand {g : GT} {l : Launch} {v0 : Int32} {v1 : Int32} {v2 : Int32} {M : Mem} {t : Int32} (h : f_X5_canStand v0 v1 v2 M = some t) : Ct g l 1 yX5_canStand cX5_canStand 4 (some .boolean) [.int v0, .int v1, .int v2] M (some (.int t)) M := by
  refine ct_of (k := 1) (by decide) (Nat.le_of_ble_eq_true rfl) rfl (fun X C hl hr hR => ?_)
  subst hl
  have C : Cx g X cX5_canStand RX5 4 1 := C
  unfold f_X5_canStand at h
  refine kj_ild0 (pc := 0) C dX5_canStand_0 ?_
  refine kj_if_ne (pc := 1) C dX5_canStand_1 (tgt := 16) (by decide) (fun c1 => ?_) (fun c1 => ?_)
  · have h := of_neg c1 h
    refine kj_ild0 (pc := 16) C dX5_canStand_16 ?_
    refine kj_bipush (pc := 17) C (v := 36) dX5_canStand_17 cb_36 ?_
    refine kj_icmp_le (pc := 19) C dX5_canStand_19 (tgt := 24) (by decide) (fun c2 => ?_) (fun c2 => ?_)
    · have h := of_pos c2 h
      refine kj_ild1 (pc := 24) C dX5_canStand_24 ?_
      refine kj_bipush (pc := 25) C (v := 48) dX5_canStand_25 cb_48 ?_
      refine kj_isub (pc := 27) C dX5_canStand_27 ?_
      obtain ⟨x3, ex3, h⟩ := of_lt h
      refine kj_ni ex3 ?_
      refine kj_ist3 (pc := 28) C dX5_canStand_28 (Nat.le_of_ble_eq_true rfl) rfl ?_
      refine kj_ild0 (pc := 29) C dX5_canStand_29 ?_
      obtain ⟨q4, eq4, h⟩ := of_bind h
      refine kj_callS1 (pc := 30) C (ct_X5_part eq4) (Nat.le_of_ble_eq_true rfl) mi_X5_part ml_X5_23 rfl as1 (Nat.le_of_ble_eq_true rfl) dX5_canStand_30 ?_
      rcases Classical.em (q4 = 0) with c6 | c6
      · have h := of_pos c6 h
        refine kj_look (pc := 33) C (off := 35) (tgt := 68) dX5_canStand_33 (by decide) (by rw [c6]; decide) (by decide) ?_
        refine kj_ild1 (pc := 68) C dX5_canStand_68 ?_
        refine kj_bipush (pc := 69) C (v := 83) dX5_canStand_69 cb_83 ?_
        refine kj_icmp_ne (pc := 71) C dX5_canStand_71 (tgt := 78) (by decide) (fun c5 => ?_) (fun c5 => ?_)
        · have h := of_neg c5 h
          refine kj_iconst (pc := 78) C (v := 0) dX5_canStand_78 ci_0 ?_
          exact k_X5_canStand_79 C hr hR _ _ _ _ _ h
        · have h := of_pos c5 h
          refine kj_iconst (pc := 74) C (v := 1) dX5_canStand_74 ci_1 ?_
          refine kj_goto (pc := 75) C dX5_canStand_75 (tgt := 79) (by decide) ?_
          exact k_X5_canStand_79 C hr hR _ _ _ _ _ h
      · have h := of_neg c6 h
        rcases Classical.em (q4 = 1) with c10 | c10
        · have h := of_pos c10 h
          refine kj_look (pc := 33) C (off := 47) (tgt := 80) dX5_canStand_33 (by decide) (by rw [c10]; decide) (by decide) ?_
          refine kj_ild3 (pc := 80) C dX5_canStand_80 ?_
          refine kj_iconst (pc := 81) C (v := 0) dX5_canStand_81 ci_0 ?_
          refine kj_bipush (pc := 82) C (v := 7) dX5_canStand_82 cb_7 ?_
          obtain ⟨q7, eq7, h⟩ := of_bind h
          refine kj_callSN1 (pc := 84) C (ct_X9_isWithin eq7) (Nat.le_of_ble_eq_true rfl) mi_X9_isWithin ml_X5_27 rfl as3 (Nat.le_of_ble_eq_true rfl) dX5_canStand_84 ?_
          refine kj_if_eq (pc := 87) C dX5_canStand_87 (tgt := 102) (by decide) (fun c8 => ?_) (fun c8 => ?_)
          · have h := of_pos c8 h
            exact k_X5_canStand_102 C hr hR  _ _ _ _ h
          · have h := of_neg c8 h
            refine kj_ild2 (pc := 90) C dX5_canStand_90 ?_
            refine kj_ild3 (pc := 91) C dX5_canStand_91 ?_
            refine kj_ishr (pc := 92) C dX5_canStand_92 ?_
            refine kj_iconst (pc := 93) C (v := 1) dX5_canStand_93 ci_1 ?_
            refine kj_iand (pc := 94) C dX5_canStand_94 ?_
            refine kj_if_ne (pc := 95) C dX5_canStand_95 (tgt := 102) (by decide) (fun c9 => ?_) (fun c9 => ?_)
            · have h := of_neg c9 h
              exact k_X5_canStand_102 C hr hR  _ _ _ _ h
            · have h := of_pos c9 h
              refine kj_iconst (pc := 98) C (v := 1) dX5_canStand_98 ci_1 ?_
              refine kj_goto (pc := 99) C dX5_canStand_99 (tgt := 103) (by decide) ?_
              exact k_X5_canStand_103 C hr hR _ _ _ _ _ h
        · have h := of_neg c10 h
          rcases Classical.em (q4 = 5) with c13 | c13
          · have h := of_pos c13 h
            refine kj_look (pc := 33) C (off := 71) (tgt := 104) dX5_canStand_33 (by decide) (by rw [c13]; decide) (by decide) ?_
            refine kj_ild3 (pc := 104) C dX5_canStand_104 ?_
            refine kj_iconst (pc := 105) C (v := 0) dX5_canStand_105 ci_0 ?_
            refine kj_iconst (pc := 106) C (v := 3) dX5_canStand_106 ci_3 ?_
            obtain ⟨q11, eq11, h⟩ := of_bind h
            refine kj_callSN1 (pc := 107) C (ct_X9_isWithin eq11) (Nat.le_of_ble_eq_true rfl) mi_X9_isWithin ml_X5_27 rfl as3 (Nat.le_of_ble_eq_true rfl) dX5_canStand_107 ?_
            obtain ⟨c12, h⟩ := of_gd h
            cases h
            exact kj_zret (pc := 110) C hr c12 hR dX5_canStand_110
          · have h := of_neg c13 h
            refine kj_look (pc := 33) C (off := 78) (tgt := 111) dX5_canStand_33 (by decide) (lo_X5_canStand c6 c10 c13) (by decide) ?_
            refine kj_ild3 (pc := 111) C dX5_canStand_111 ?_
            refine kj_iconst (pc := 112) C (v := 0) dX5_canStand_112 ci_0 ?_
            refine kj_bipush (pc := 113) C (v := 9) dX5_canStand_113 cb_9 ?_
            obtain ⟨q14, eq14, h⟩ := of_bind h
            refine kj_callSN1 (pc := 115) C (ct_X9_isWithin eq14) (Nat.le_of_ble_eq_true rfl) mi_X9_isWithin ml_X5_27 rfl as3 (Nat.le_of_ble_eq_true rfl) dX5_canStand_115 ?_
            obtain ⟨c15, h⟩ := of_gd h
            cases h
            exact kj_zret (pc := 118) C hr c15 hR dX5_canStand_118
    · have h := of_neg c2 h
      refine kj_iconst (pc := 22) C (v := 0) dX5_canStand_22 ci_0 ?_
      cases h
      exact kj_zret (pc := 23) C hr (by decide) hR dX5_canStand_23
  · have h := of_pos c1 h
    refine kj_ild1 (pc := 4) C dX5_canStand_4 ?_
    refine kj_bipush (pc := 5) C (v := 67) dX5_canStand_5 cb_67 ?_
    refine kj_icmp_ne (pc := 7) C dX5_canStand_7 (tgt := 14) (by decide) (fun c16 => ?_) (fun c16 => ?_)
    · have h := of_neg c16 h
      refine kj_iconst (pc := 14) C (v := 0) dX5_canStand_14 ci_0 ?_
      exact k_X5_canStand_15 C hr hR _ _ _ _ _ h
    · have h := of_pos c16 h
      refine kj_iconst (pc := 10) C (v := 1) dX5_canStand_10 ci_1 ?_
      refine kj_goto (pc := 11) C dX5_canStand_11 (tgt := 15) (by decide) ?_
      exact k_X5_canStand_15 C hr hR _ _ _ _ _ h
def f_X5_firstFault_101 (M : Mem) (s0 : Int32) : Option (Int32) := some s0
set_option maxHeartbeats 4000000 in
set_option maxRecDepth 100000 in
theorem k_X5_firstFault_101 {g : GT} {X : XT} {M : Mem} {t : Int32} (C : Cx g X cX5_firstFault RX5 3 2) (hr : (xt X).sig.returnType = some .int) (hR : Rt g X (some (.int t)) M) : ∀ (s0 : Int32) (w0 w1 w2 : Option Value), f_X5_firstFault_101 M s0 = some t → Kj g X 3 101 [w0, w1, w2] [.int s0] M := by
  intro s0 w0 w1 w2 h
  unfold f_X5_firstFault_101 at h
  cases h
  exact kj_iret (pc := 101) C hr hR dX5_firstFault_101
def f_X5_firstFault_87 (M : Mem) (s0 : Int32) : Option (Int32) := if s0 = 0 then f_X5_firstFault_101 M (M.1 18 0 1) else f_X5_firstFault_101 M (-9)
set_option maxHeartbeats 4000000 in
set_option maxRecDepth 100000 in
theorem k_X5_firstFault_87 {g : GT} {X : XT} {M : Mem} {t : Int32} (C : Cx g X cX5_firstFault RX5 3 2) (hr : (xt X).sig.returnType = some .int) (hR : Rt g X (some (.int t)) M) : ∀ (s0 : Int32) (w1 w2 : Option Value), f_X5_firstFault_87 M s0 = some t → Kj g X 3 87 [some (.ref (ga g 18 0)), w1, w2] [.int s0] M := by
  intro s0 w1 w2 h
  unfold f_X5_firstFault_87 at h
  refine kj_ist2w (pc := 87) C dX5_firstFault_87 (Nat.le_of_ble_eq_true rfl) ?_
  refine kj_ild2 (pc := 88) C dX5_firstFault_88 ?_
  refine kj_if_eq (pc := 89) C dX5_firstFault_89 (tgt := 97) (by decide) (fun c1 => ?_) (fun c1 => ?_)
  · have h := of_pos c1 h
    refine kj_ald0 (pc := 97) C dX5_firstFault_97 ?_
    refine gf_X5_15 (pc := 98) C dX5_firstFault_98 ?_
    exact k_X5_firstFault_101 C hr hR _ _ _ _ h
  · have h := of_neg c1 h
    refine kj_bipush (pc := 92) C (v := (-9)) dX5_firstFault_92 cb_m9 ?_
    refine kj_goto (pc := 94) C dX5_firstFault_94 (tgt := 101) (by decide) ?_
    exact k_X5_firstFault_101 C hr hR _ _ _ _ h
def f_X5_firstFault_86 (M : Mem) : Option (Int32) := f_X5_firstFault_87 M 0
set_option maxHeartbeats 4000000 in
set_option maxRecDepth 100000 in
theorem k_X5_firstFault_86 {g : GT} {X : XT} {M : Mem} {t : Int32} (C : Cx g X cX5_firstFault RX5 3 2) (hr : (xt X).sig.returnType = some .int) (hR : Rt g X (some (.int t)) M) : ∀ (w1 w2 : Option Value), f_X5_firstFault_86 M = some t → Kj g X 3 86 [some (.ref (ga g 18 0)), w1, w2] [] M := by
  intro w1 w2 h
  unfold f_X5_firstFault_86 at h
  refine kj_iconst (pc := 86) C (v := 0) dX5_firstFault_86 ci_0 ?_
  exact k_X5_firstFault_87 C hr hR _ _ _ h
def f_X5_firstFault_65 (M : Mem) : Option (Int32) := if (M.1 18 0 1) ≤ 0 then f_X5_firstFault_86 M else (f_X5_part (M.1 18 0 1) M).bind (fun q2 => if q2 = 0 then f_X5_firstFault_87 M 1 else f_X5_firstFault_86 M)
set_option maxHeartbeats 4000000 in
set_option maxRecDepth 100000 in
theorem k_X5_firstFault_65 {g : GT} {X : XT} {M : Mem} {t : Int32} (C : Cx g X cX5_firstFault RX5 3 2) (hr : (xt X).sig.returnType = some .int) (hR : Rt g X (some (.int t)) M) : ∀ (w1 w2 : Option Value), f_X5_firstFault_65 M = some t → Kj g X 3 65 [some (.ref (ga g 18 0)), w1, w2] [] M := by
  intro w1 w2 h
  unfold f_X5_firstFault_65 at h
  refine kj_ald0 (pc := 65) C dX5_firstFault_65 ?_
  refine gf_X5_15 (pc := 66) C dX5_firstFault_66 ?_
  refine kj_if_le (pc := 69) C dX5_firstFault_69 (tgt := 86) (by decide) (fun c1 => ?_) (fun c1 => ?_)
  · have h := of_pos c1 h
    exact k_X5_firstFault_86 C hr hR  _ _ h
  · have h := of_neg c1 h
    refine kj_ald0 (pc := 72) C dX5_firstFault_72 ?_
    refine gf_X5_15 (pc := 73) C dX5_firstFault_73 ?_
    obtain ⟨q2, eq2, h⟩ := of_bind h
    refine kj_callS1 (pc := 76) C (ct_X5_part eq2) (Nat.le_of_ble_eq_true rfl) mi_X5_part ml_X5_23 rfl as1 (Nat.le_of_ble_eq_true rfl) dX5_firstFault_76 ?_
    refine kj_if_ne (pc := 79) C dX5_firstFault_79 (tgt := 86) (by decide) (fun c3 => ?_) (fun c3 => ?_)
    · have h := of_neg c3 h
      exact k_X5_firstFault_86 C hr hR  _ _ h
    · have h := of_pos c3 h
      refine kj_iconst (pc := 82) C (v := 1) dX5_firstFault_82 ci_1 ?_
      refine kj_goto (pc := 83) C dX5_firstFault_83 (tgt := 87) (by decide) ?_
      exact k_X5_firstFault_87 C hr hR _ _ _ h
def f_X5_firstFault_59 (M : Mem) (k4 : Int32 → Int32 → Option (Int32)) (v1 : Int32) (v2 : Int32) : Option (Int32) := lt_ (v2 + 1) (fun x1 => k4 v1 x1)
set_option maxHeartbeats 4000000 in
set_option maxRecDepth 100000 in
theorem k_X5_firstFault_59 {g : GT} {X : XT} {M : Mem} {k4 : Int32 → Int32 → Option (Int32)} {t : Int32} (C : Cx g X cX5_firstFault RX5 3 2) (hr : (xt X).sig.returnType = some .int) (hR : Rt g X (some (.int t)) M) (hk4 : ∀ (v1 : Int32) (v2 : Int32), k4 v1 v2 = some t → Kj g X 3 4 [some (.ref (ga g 18 0)), some (.int v1), some (.int v2)] [] M) : ∀ (v1 : Int32) (v2 : Int32), f_X5_firstFault_59 M k4 v1 v2 = some t → Kj g X 3 59 [some (.ref (ga g 18 0)), some (.int v1), some (.int v2)] [] M := by
  intro v1 v2 h
  unfold f_X5_firstFault_59 at h
  obtain ⟨x1, ex1, h⟩ := of_lt h
  refine kj_iinc2 (pc := 59) C (v := x1) dX5_firstFault_59 (Nat.le_of_ble_eq_true rfl) rfl (by rw [ex1, ci_1]) ?_
  refine kj_goto (pc := 62) C dX5_firstFault_62 (tgt := 4) (by decide) ?_
  exact hk4 _ _ h
def f_X5_firstFault_4 (M : Mem) (n : Nat) (v1 : Int32) (v2 : Int32) : Option (Int32) := match n with
  | 0 => none
  | n + 1 => if (M.1 18 0 1) ≤ v2 then f_X5_firstFault_65 M else if 48 ≤ v2 then f_X5_firstFault_65 M else if ¬ (v2 < 0 ∨ 48 ≤ v2.toNatClampNeg) then (f_X5_canStand v2 (M.1 18 1 v2.toNatClampNeg) v1 M).bind (fun q4 => if q4 = 0 then some v2 else (f_X5_part v2 M).bind (fun q6 => if q6 = 1 then if ¬ (v2 < 0 ∨ 48 ≤ v2.toNatClampNeg) then lt_ (v1 ||| ((1 : Int32) <<< (((M.1 18 1 v2.toNatClampNeg) - (48 : Int32)) &&& 31))) (fun x9 => f_X5_firstFault_59 M (f_X5_firstFault_4 M n) x9 v2) else none else f_X5_firstFault_59 M (f_X5_firstFault_4 M n) v1 v2)) else none
set_option maxHeartbeats 4000000 in
set_option maxRecDepth 100000 in
theorem k_X5_firstFault_4 {g : GT} {X : XT} {M : Mem} {t : Int32} (C : Cx g X cX5_firstFault RX5 3 2) (hr : (xt X).sig.returnType = some .int) (hR : Rt g X (some (.int t)) M) (n : Nat) : ∀ (v1 : Int32) (v2 : Int32), f_X5_firstFault_4 M n v1 v2 = some t → Kj g X 3 4 [some (.ref (ga g 18 0)), some (.int v1), some (.int v2)] [] M := by
  induction n with
  | zero => intro v1 v2 h; rw [f_X5_firstFault_4] at h; cases h
  | succ n ih =>
    intro v1 v2 h
    rw [f_X5_firstFault_4] at h
    refine kj_ild2 (pc := 4) C dX5_firstFault_4 ?_
    refine kj_ald0 (pc := 5) C dX5_firstFault_5 ?_
    refine gf_X5_15 (pc := 6) C dX5_firstFault_6 ?_
    refine kj_icmp_ge (pc := 9) C dX5_firstFault_9 (tgt := 65) (by decide) (fun c1 => ?_) (fun c1 => ?_)
    · have h := of_pos c1 h
      exact k_X5_firstFault_65 C hr hR  _ _ h
    · have h := of_neg c1 h
      refine kj_ild2 (pc := 12) C dX5_firstFault_12 ?_
      refine kj_ald0 (pc := 13) C dX5_firstFault_13 ?_
      refine gf_X5_9 (pc := 14) C dX5_firstFault_14 ?_
      refine kj_alen2 (pc := 17) C ia_18_1 (v := 48) rfl dX5_firstFault_17 ?_
      refine kj_icmp_ge (pc := 18) C dX5_firstFault_18 (tgt := 65) (by decide) (fun c2 => ?_) (fun c2 => ?_)
      · have h := of_pos c2 h
        exact k_X5_firstFault_65 C hr hR  _ _ h
      · have h := of_neg c2 h
        refine kj_ild2 (pc := 21) C dX5_firstFault_21 ?_
        refine kj_ald0 (pc := 22) C dX5_firstFault_22 ?_
        refine gf_X5_9 (pc := 23) C dX5_firstFault_23 ?_
        refine kj_ild2 (pc := 26) C dX5_firstFault_26 ?_
        obtain ⟨c3, h⟩ := of_gd h
        refine kj_iald2 (pc := 27) C ia_18_1 c3 dX5_firstFault_27 ?_
        refine kj_ild1 (pc := 28) C dX5_firstFault_28 ?_
        obtain ⟨q4, eq4, h⟩ := of_bind h
        refine kj_callS1 (pc := 29) C (ct_X5_canStand eq4) (Nat.le_of_ble_eq_true rfl) mi_X5_canStand ml_X5_19 rfl as3 (Nat.le_of_ble_eq_true rfl) dX5_firstFault_29 ?_
        refine kj_if_ne (pc := 32) C dX5_firstFault_32 (tgt := 37) (by decide) (fun c5 => ?_) (fun c5 => ?_)
        · have h := of_neg c5 h
          refine kj_ild2 (pc := 37) C dX5_firstFault_37 ?_
          obtain ⟨q6, eq6, h⟩ := of_bind h
          refine kj_callS1 (pc := 38) C (ct_X5_part eq6) (Nat.le_of_ble_eq_true rfl) mi_X5_part ml_X5_23 rfl as1 (Nat.le_of_ble_eq_true rfl) dX5_firstFault_38 ?_
          refine kj_iconst (pc := 41) C (v := 1) dX5_firstFault_41 ci_1 ?_
          refine kj_icmp_ne (pc := 42) C dX5_firstFault_42 (tgt := 59) (by decide) (fun c7 => ?_) (fun c7 => ?_)
          · have h := of_neg c7 h
            exact k_X5_firstFault_59 C hr hR ih _ _ h
          · have h := of_pos c7 h
            refine kj_ild1 (pc := 45) C dX5_firstFault_45 ?_
            refine kj_iconst (pc := 46) C (v := 1) dX5_firstFault_46 ci_1 ?_
            refine kj_ald0 (pc := 47) C dX5_firstFault_47 ?_
            refine gf_X5_9 (pc := 48) C dX5_firstFault_48 ?_
            refine kj_ild2 (pc := 51) C dX5_firstFault_51 ?_
            obtain ⟨c8, h⟩ := of_gd h
            refine kj_iald2 (pc := 52) C ia_18_1 c8 dX5_firstFault_52 ?_
            refine kj_bipush (pc := 53) C (v := 48) dX5_firstFault_53 cb_48 ?_
            refine kj_isub (pc := 55) C dX5_firstFault_55 ?_
            refine kj_ishl (pc := 56) C dX5_firstFault_56 ?_
            refine kj_ior (pc := 57) C dX5_firstFault_57 ?_
            obtain ⟨x9, ex9, h⟩ := of_lt h
            refine kj_ni ex9 ?_
            refine kj_ist1 (pc := 58) C dX5_firstFault_58 (Nat.le_of_ble_eq_true rfl) rfl ?_
            exact k_X5_firstFault_59 C hr hR ih _ _ h
        · have h := of_pos c5 h
          refine kj_ild2 (pc := 35) C dX5_firstFault_35 ?_
          cases h
          exact kj_iret (pc := 36) C hr hR dX5_firstFault_36
def f_X5_firstFault (M : Mem) : Option (Int32) := f_X5_firstFault_4 M 100 0 0
set_option maxHeartbeats 4000000 in
set_option maxRecDepth 100000 in
theorem ct_X5_firstFault {g : GT} {l : Launch} {M : Mem} {t : Int32} (h : f_X5_firstFault M = some t) : Ct g l 2 yX5_firstFault cX5_firstFault 3 (some .int) [.ref (ga g 18 0)] M (some (.int t)) M := by
  refine ct_of (k := 2) (by decide) (Nat.le_of_ble_eq_true rfl) rfl (fun X C hl hr hR => ?_)
  subst hl
  have C : Cx g X cX5_firstFault RX5 3 2 := C
  unfold f_X5_firstFault at h
  refine kj_iconst (pc := 0) C (v := 0) dX5_firstFault_0 ci_0 ?_
  refine kj_ist1 (pc := 1) C dX5_firstFault_1 (Nat.le_of_ble_eq_true rfl) rfl ?_
  refine kj_iconst (pc := 2) C (v := 0) dX5_firstFault_2 ci_0 ?_
  refine kj_ist2 (pc := 3) C dX5_firstFault_3 (Nat.le_of_ble_eq_true rfl) rfl ?_
  exact k_X5_firstFault_4 C hr hR 100 _ _ h
def f_X5_tellTo_138 (o2 : Nat) (M : Mem) : Option (Mem) := (f_X4_everybody M).bind (fun q1 => lt_ (sw M o2 0 5 q1) (fun M2 => lt_ (sw M2 o2 0 6 0) (fun M3 => lt_ (sw M3 o2 0 7 0) (fun M4 => (f_X7_takeVoices o2 M4).bind (fun q5 => some q5)))))
set_option maxHeartbeats 4000000 in
set_option maxRecDepth 100000 in
theorem k_X5_tellTo_138 {g : GT} {X : XT} {o2 : Nat} {t : Mem} (C : Cx g X cX5_tellTo RX5 5 3) (hr : (xt X).sig.returnType = none) (hR : Rt g X none t) (ho2 : o2 < 18) : ∀ (M : Mem) (w0 w3 w4 : Option Value), f_X5_tellTo_138 o2 M = some t → Kj g X 5 138 [w0, some (.ref (ga g 19 0)), some (.ref (ga g o2 0)), w3, w4] [] M := by
  intro M w0 w3 w4 h
  unfold f_X5_tellTo_138 at h
  refine kj_ald2 (pc := 138) C dX5_tellTo_138 ?_
  refine kj_ald1 (pc := 139) C dX5_tellTo_139 ?_
  obtain ⟨q1, eq1, h⟩ := of_bind h
  refine kj_callVN1 (pc := 140) C (ct_X4_everybody eq1) (Nat.le_of_ble_eq_true rfl) mi_X4_everybody ml_X5_58 rc_19 rfl rfl ar0 (Nat.le_of_ble_eq_true rfl) dX5_tellTo_140 ?_
  obtain ⟨M2, eM2, h⟩ := of_lt h
  refine pf_X5_62 (pc := 143) C ho2 dX5_tellTo_143 ?_
  refine kj_nM eM2 ?_
  refine kj_ald2 (pc := 146) C dX5_tellTo_146 ?_
  refine kj_iconst (pc := 147) C (v := 0) dX5_tellTo_147 ci_0 ?_
  obtain ⟨M3, eM3, h⟩ := of_lt h
  refine pf_X5_65 (pc := 148) C ho2 dX5_tellTo_148 ?_
  refine kj_nM eM3 ?_
  refine kj_ald2 (pc := 151) C dX5_tellTo_151 ?_
  refine kj_iconst (pc := 152) C (v := 0) dX5_tellTo_152 ci_0 ?_
  obtain ⟨M4, eM4, h⟩ := of_lt h
  refine pf_X5_68 (pc := 153) C ho2 dX5_tellTo_153 ?_
  refine kj_nM eM4 ?_
  refine kj_ald2 (pc := 156) C dX5_tellTo_156 ?_
  obtain ⟨q5, eq5, h⟩ := of_bind h
  refine kj_callVN0 (pc := 157) C (ct_X7_takeVoices ho2 eq5) (Nat.le_of_ble_eq_true rfl) mi_X7_takeVoices ml_X5_71 (rc_st ho2) rfl rfl ar0 (Nat.le_of_ble_eq_true rfl) dX5_tellTo_157 ?_
  cases h
  exact kj_vret (pc := 160) C hr hR dX5_tellTo_160
def f_X5_tellTo_20 (o2 : Nat) (n : Nat) (v3 : Int32) (M : Mem) : Option (Mem) := match n with
  | 0 => none
  | n + 1 => if (M.1 19 0 3) ≤ v3 then f_X5_tellTo_138 o2 M else if 6 ≤ v3 then f_X5_tellTo_138 o2 M else lt_ ((1 : Int32) + (v3 * (6 : Int32))) (fun x3 => lt_ (x3 + (1 : Int32)) (fun x5 => if ¬ (x5 < 0 ∨ 48 ≤ x5.toNatClampNeg) then if ¬ (v3 < 0 ∨ 6 ≤ v3.toNatClampNeg) then lt_ (sw M o2 1 v3.toNatClampNeg ((M.1 18 1 x5.toNatClampNeg) - (48 : Int32))) (fun M7 => lt_ (x3 + (2 : Int32)) (fun x9 => if ¬ (x9 < 0 ∨ 48 ≤ x9.toNatClampNeg) then if ¬ (v3 < 0 ∨ 6 ≤ v3.toNatClampNeg) then lt_ (sw M7 19 1 v3.toNatClampNeg ((M7.1 18 1 x9.toNatClampNeg) - (48 : Int32))) (fun M11 => lt_ (x3 + (3 : Int32)) (fun x13 => if ¬ (x13 < 0 ∨ 48 ≤ x13.toNatClampNeg) then if ¬ (v3 < 0 ∨ 6 ≤ v3.toNatClampNeg) then lt_ (sw M11 19 2 v3.toNatClampNeg ((M11.1 18 1 x13.toNatClampNeg) - (48 : Int32))) (fun M15 => lt_ (x3 + (4 : Int32)) (fun x17 => if ¬ (x17 < 0 ∨ 48 ≤ x17.toNatClampNeg) then if ¬ (v3 < 0 ∨ 6 ≤ v3.toNatClampNeg) then lt_ (sw M15 o2 2 v3.toNatClampNeg ((M15.1 18 1 x17.toNatClampNeg) - (48 : Int32))) (fun M19 => lt_ (x3 + (5 : Int32)) (fun x21 => if ¬ (x21 < 0 ∨ 48 ≤ x21.toNatClampNeg) then if ¬ (v3 < 0 ∨ 6 ≤ v3.toNatClampNeg) then lt_ (sw M19 19 3 v3.toNatClampNeg ((M19.1 18 1 x21.toNatClampNeg) - (48 : Int32))) (fun M23 => lt_ (v3 + 1) (fun x24 => f_X5_tellTo_20 o2 n x24 M23)) else none else none)) else none else none)) else none else none)) else none else none)) else none else none))
set_option maxHeartbeats 4000000 in
set_option maxRecDepth 100000 in
theorem k_X5_tellTo_20 {g : GT} {X : XT} {o2 : Nat} {t : Mem} (C : Cx g X cX5_tellTo RX5 5 3) (hr : (xt X).sig.returnType = none) (hR : Rt g X none t) (ho2 : o2 < 18) (n : Nat) : ∀ (v3 : Int32) (M : Mem) (w4 : Option Value), f_X5_tellTo_20 o2 n v3 M = some t → Kj g X 5 20 [some (.ref (ga g 18 0)), some (.ref (ga g 19 0)), some (.ref (ga g o2 0)), some (.int v3), w4] [] M := by
  induction n with
  | zero => intro v3 M w4 h; rw [f_X5_tellTo_20] at h; cases h
  | succ n ih =>
    intro v3 M w4 h
    rw [f_X5_tellTo_20] at h
    refine kj_ild3 (pc := 20) C dX5_tellTo_20 ?_
    refine kj_ald1 (pc := 21) C dX5_tellTo_21 ?_
    refine gf_X5_36 (pc := 22) C dX5_tellTo_22 ?_
    refine kj_icmp_ge (pc := 25) C dX5_tellTo_25 (tgt := 138) (by decide) (fun c1 => ?_) (fun c1 => ?_)
    · have h := of_pos c1 h
      exact k_X5_tellTo_138 C hr hR ho2  _ _ _ _ h
    · have h := of_neg c1 h
      refine kj_ild3 (pc := 28) C dX5_tellTo_28 ?_
      refine kj_bipush (pc := 29) C (v := 6) dX5_tellTo_29 cb_6 ?_
      refine kj_icmp_ge (pc := 31) C dX5_tellTo_31 (tgt := 138) (by decide) (fun c2 => ?_) (fun c2 => ?_)
      · have h := of_pos c2 h
        exact k_X5_tellTo_138 C hr hR ho2  _ _ _ _ h
      · have h := of_neg c2 h
        refine kj_iconst (pc := 34) C (v := 1) dX5_tellTo_34 ci_1 ?_
        refine kj_ild3 (pc := 35) C dX5_tellTo_35 ?_
        refine kj_bipush (pc := 36) C (v := 6) dX5_tellTo_36 cb_6 ?_
        refine kj_imul (pc := 38) C dX5_tellTo_38 ?_
        refine kj_iadd (pc := 39) C dX5_tellTo_39 ?_
        obtain ⟨x3, ex3, h⟩ := of_lt h
        refine kj_ni ex3 ?_
        refine kj_ist4 (pc := 40) C dX5_tellTo_40 (Nat.le_of_ble_eq_true rfl) rfl ?_
        refine kj_ald2 (pc := 42) C dX5_tellTo_42 ?_
        refine gf_X5_41 (pc := 43) C ho2 dX5_tellTo_43 ?_
        refine kj_ild3 (pc := 46) C dX5_tellTo_46 ?_
        refine kj_ald0 (pc := 47) C dX5_tellTo_47 ?_
        refine gf_X5_9 (pc := 48) C dX5_tellTo_48 ?_
        refine kj_ild4 (pc := 51) C dX5_tellTo_51 ?_
        refine kj_iconst (pc := 53) C (v := 1) dX5_tellTo_53 ci_1 ?_
        refine kj_iadd (pc := 54) C dX5_tellTo_54 ?_
        obtain ⟨x5, ex5, h⟩ := of_lt h
        refine kj_ni ex5 ?_
        obtain ⟨c4, h⟩ := of_gd h
        refine kj_iald2 (pc := 55) C ia_18_1 c4 dX5_tellTo_55 ?_
        refine kj_bipush (pc := 56) C (v := 48) dX5_tellTo_56 cb_48 ?_
        refine kj_isub (pc := 58) C dX5_tellTo_58 ?_
        obtain ⟨c6, h⟩ := of_gd h
        obtain ⟨M7, eM7, h⟩ := of_lt h
        refine kj_iast2 (pc := 59) C (ia_st ho2 ⟨by decide, by decide⟩) c6 dX5_tellTo_59 ?_
        refine kj_nM eM7 ?_
        refine kj_ald1 (pc := 60) C dX5_tellTo_60 ?_
        refine gf_X5_46 (pc := 61) C dX5_tellTo_61 ?_
        refine kj_ild3 (pc := 64) C dX5_tellTo_64 ?_
        refine kj_ald0 (pc := 65) C dX5_tellTo_65 ?_
        refine gf_X5_9 (pc := 66) C dX5_tellTo_66 ?_
        refine kj_ild4 (pc := 69) C dX5_tellTo_69 ?_
        refine kj_iconst (pc := 71) C (v := 2) dX5_tellTo_71 ci_2 ?_
        refine kj_iadd (pc := 72) C dX5_tellTo_72 ?_
        obtain ⟨x9, ex9, h⟩ := of_lt h
        refine kj_ni ex9 ?_
        obtain ⟨c8, h⟩ := of_gd h
        refine kj_iald2 (pc := 73) C ia_18_1 c8 dX5_tellTo_73 ?_
        refine kj_bipush (pc := 74) C (v := 48) dX5_tellTo_74 cb_48 ?_
        refine kj_isub (pc := 76) C dX5_tellTo_76 ?_
        obtain ⟨c10, h⟩ := of_gd h
        obtain ⟨M11, eM11, h⟩ := of_lt h
        refine kj_iast2 (pc := 77) C ia_19_1 c10 dX5_tellTo_77 ?_
        refine kj_nM eM11 ?_
        refine kj_ald1 (pc := 78) C dX5_tellTo_78 ?_
        refine gf_X5_49 (pc := 79) C dX5_tellTo_79 ?_
        refine kj_ild3 (pc := 82) C dX5_tellTo_82 ?_
        refine kj_ald0 (pc := 83) C dX5_tellTo_83 ?_
        refine gf_X5_9 (pc := 84) C dX5_tellTo_84 ?_
        refine kj_ild4 (pc := 87) C dX5_tellTo_87 ?_
        refine kj_iconst (pc := 89) C (v := 3) dX5_tellTo_89 ci_3 ?_
        refine kj_iadd (pc := 90) C dX5_tellTo_90 ?_
        obtain ⟨x13, ex13, h⟩ := of_lt h
        refine kj_ni ex13 ?_
        obtain ⟨c12, h⟩ := of_gd h
        refine kj_iald2 (pc := 91) C ia_18_1 c12 dX5_tellTo_91 ?_
        refine kj_bipush (pc := 92) C (v := 48) dX5_tellTo_92 cb_48 ?_
        refine kj_isub (pc := 94) C dX5_tellTo_94 ?_
        obtain ⟨c14, h⟩ := of_gd h
        obtain ⟨M15, eM15, h⟩ := of_lt h
        refine kj_iast2 (pc := 95) C ia_19_2 c14 dX5_tellTo_95 ?_
        refine kj_nM eM15 ?_
        refine kj_ald2 (pc := 96) C dX5_tellTo_96 ?_
        refine gf_X5_52 (pc := 97) C ho2 dX5_tellTo_97 ?_
        refine kj_ild3 (pc := 100) C dX5_tellTo_100 ?_
        refine kj_ald0 (pc := 101) C dX5_tellTo_101 ?_
        refine gf_X5_9 (pc := 102) C dX5_tellTo_102 ?_
        refine kj_ild4 (pc := 105) C dX5_tellTo_105 ?_
        refine kj_iconst (pc := 107) C (v := 4) dX5_tellTo_107 ci_4 ?_
        refine kj_iadd (pc := 108) C dX5_tellTo_108 ?_
        obtain ⟨x17, ex17, h⟩ := of_lt h
        refine kj_ni ex17 ?_
        obtain ⟨c16, h⟩ := of_gd h
        refine kj_iald2 (pc := 109) C ia_18_1 c16 dX5_tellTo_109 ?_
        refine kj_bipush (pc := 110) C (v := 48) dX5_tellTo_110 cb_48 ?_
        refine kj_isub (pc := 112) C dX5_tellTo_112 ?_
        obtain ⟨c18, h⟩ := of_gd h
        obtain ⟨M19, eM19, h⟩ := of_lt h
        refine kj_iast2 (pc := 113) C (ia_st ho2 ⟨by decide, by decide⟩) c18 dX5_tellTo_113 ?_
        refine kj_nM eM19 ?_
        refine kj_ald1 (pc := 114) C dX5_tellTo_114 ?_
        refine gf_X5_55 (pc := 115) C dX5_tellTo_115 ?_
        refine kj_ild3 (pc := 118) C dX5_tellTo_118 ?_
        refine kj_ald0 (pc := 119) C dX5_tellTo_119 ?_
        refine gf_X5_9 (pc := 120) C dX5_tellTo_120 ?_
        refine kj_ild4 (pc := 123) C dX5_tellTo_123 ?_
        refine kj_iconst (pc := 125) C (v := 5) dX5_tellTo_125 ci_5 ?_
        refine kj_iadd (pc := 126) C dX5_tellTo_126 ?_
        obtain ⟨x21, ex21, h⟩ := of_lt h
        refine kj_ni ex21 ?_
        obtain ⟨c20, h⟩ := of_gd h
        refine kj_iald2 (pc := 127) C ia_18_1 c20 dX5_tellTo_127 ?_
        refine kj_bipush (pc := 128) C (v := 48) dX5_tellTo_128 cb_48 ?_
        refine kj_isub (pc := 130) C dX5_tellTo_130 ?_
        obtain ⟨c22, h⟩ := of_gd h
        obtain ⟨M23, eM23, h⟩ := of_lt h
        refine kj_iast2 (pc := 131) C ia_19_3 c22 dX5_tellTo_131 ?_
        refine kj_nM eM23 ?_
        obtain ⟨x24, ex24, h⟩ := of_lt h
        refine kj_iinc3 (pc := 132) C (v := x24) dX5_tellTo_132 (Nat.le_of_ble_eq_true rfl) rfl (by rw [ex24, ci_1]) ?_
        refine kj_goto (pc := 135) C dX5_tellTo_135 (tgt := 20) (by decide) ?_
        exact ih _ _ _ h
def f_X5_tellTo (o2 : Nat) (M : Mem) : Option (Mem) := lt_ ((M.1 18 0 1) - (1 : Int32)) (fun x1 => lt_ (if 6 < (x1 / 6) then 6 else (x1 / 6)) (fun x2 => lt_ (sw M 19 0 3 x2) (fun M3 => f_X5_tellTo_20 o2 100 0 M3)))
set_option maxHeartbeats 4000000 in
set_option maxRecDepth 100000 in
theorem ct_X5_tellTo {g : GT} {l : Launch} {o2 : Nat} {M : Mem} {t : Mem} (ho2 : o2 < 18) (h : f_X5_tellTo o2 M = some t) : Ct g l 3 yX5_tellTo cX5_tellTo 5 (none) [.ref (ga g 18 0), .ref (ga g 19 0), .ref (ga g o2 0)] M (none) t := by
  refine ct_of (k := 2) (by decide) (Nat.le_of_ble_eq_true rfl) rfl (fun X C hl hr hR => ?_)
  subst hl
  have C : Cx g X cX5_tellTo RX5 5 3 := C
  unfold f_X5_tellTo at h
  refine kj_ald1 (pc := 0) C dX5_tellTo_0 ?_
  refine kj_ald0 (pc := 1) C dX5_tellTo_1 ?_
  refine gf_X5_15 (pc := 2) C dX5_tellTo_2 ?_
  refine kj_iconst (pc := 5) C (v := 1) dX5_tellTo_5 ci_1 ?_
  refine kj_isub (pc := 6) C dX5_tellTo_6 ?_
  refine kj_bipush (pc := 7) C (v := 6) dX5_tellTo_7 cb_6 ?_
  obtain ⟨x1, ex1, h⟩ := of_lt h
  rw [← ex1]
  refine kj_idiv (pc := 9) C dX5_tellTo_9 (by decide) ?_
  refine kj_bipush (pc := 10) C (v := 6) dX5_tellTo_10 cb_6 ?_
  obtain ⟨x2, ex2, h⟩ := of_lt h
  refine kj_mmin2 (pc := 12) C ml_X5_30 (Nat.le_of_ble_eq_true rfl) dX5_tellTo_12 ?_
  refine kj_ni ex2 ?_
  obtain ⟨M3, eM3, h⟩ := of_lt h
  refine pf_X5_36 (pc := 15) C dX5_tellTo_15 ?_
  refine kj_nM eM3 ?_
  refine kj_iconst (pc := 18) C (v := 0) dX5_tellTo_18 ci_0 ?_
  refine kj_ist3 (pc := 19) C dX5_tellTo_19 (Nat.le_of_ble_eq_true rfl) rfl ?_
  exact k_X5_tellTo_20 C hr hR ho2 100 _ _ _ h
def f_X6_forgetAll (M : Mem) : Option (Mem) := lt_ (sw M 22 0 1 0) (fun M1 => some M1)
set_option maxHeartbeats 4000000 in
set_option maxRecDepth 100000 in
theorem ct_X6_forgetAll {g : GT} {l : Launch} {M : Mem} {t : Mem} (h : f_X6_forgetAll M = some t) : Ct g l 0 yX6_forgetAll cX6_forgetAll 1 (none) [.ref (ga g 22 0)] M (none) t := by
  refine ct_of (k := 0) (by decide) (Nat.le_of_ble_eq_true rfl) rfl (fun X C hl hr hR => ?_)
  subst hl
  have C : Cx g X cX6_forgetAll RX6 1 0 := C
  unfold f_X6_forgetAll at h
  refine kj_ald0 (pc := 0) C dX6_forgetAll_0 ?_
  refine kj_iconst (pc := 1) C (v := 0) dX6_forgetAll_1 ci_0 ?_
  obtain ⟨M1, eM1, h⟩ := of_lt h
  refine pf_X6_17 (pc := 2) C dX6_forgetAll_2 ?_
  refine kj_nM eM1 ?_
  cases h
  exact kj_vret (pc := 5) C hr hR dX6_forgetAll_5
def f_X6_put (o2 : Nat) (v1 : Int32) (M : Mem) : Option (Int32 × Mem) := (f_X9_isWithin v1 0 1 M).bind (fun q1 => if q1 = 0 then some ((0 : Int32), M) else if ¬ (v1 < 0 ∨ 2 ≤ v1.toNatClampNeg) then (f_X7_copyFrom (16 + v1.toNatClampNeg) o2 M).bind (fun q4 => lt_ (sw q4 22 0 1 ((q4.1 22 0 1) ||| ((1 : Int32) <<< (v1 &&& 31)))) (fun M5 => some ((1 : Int32), M5))) else none)
set_option maxHeartbeats 4000000 in
set_option maxRecDepth 100000 in
theorem ct_X6_put {g : GT} {l : Launch} {o2 : Nat} {v1 : Int32} {M : Mem} {t : Int32 × Mem} (ho2 : o2 < 18) (h : f_X6_put o2 v1 M = some t) : Ct g l 3 yX6_put cX6_put 3 (some .boolean) [.ref (ga g 22 0), .int v1, .ref (ga g o2 0)] M (some (.int t.1)) t.2 := by
  refine ct_of (k := 0) (by decide) (Nat.le_of_ble_eq_true rfl) rfl (fun X C hl hr hR => ?_)
  subst hl
  have C : Cx g X cX6_put RX6 3 3 := C
  unfold f_X6_put at h
  refine kj_ild1 (pc := 0) C dX6_put_0 ?_
  refine kj_iconst (pc := 1) C (v := 0) dX6_put_1 ci_0 ?_
  refine kj_iconst (pc := 2) C (v := 1) dX6_put_2 ci_1 ?_
  obtain ⟨q1, eq1, h⟩ := of_bind h
  refine kj_callSN1 (pc := 3) C (ct_X9_isWithin eq1) (Nat.le_of_ble_eq_true rfl) mi_X9_isWithin ml_X6_24 rfl as3 (Nat.le_of_ble_eq_true rfl) dX6_put_3 ?_
  refine kj_if_ne (pc := 6) C dX6_put_6 (tgt := 11) (by decide) (fun c2 => ?_) (fun c2 => ?_)
  · have h := of_neg c2 h
    refine kj_ald0 (pc := 11) C dX6_put_11 ?_
    refine gf_X6_11 (pc := 12) C dX6_put_12 ?_
    refine kj_ild1 (pc := 15) C dX6_put_15 ?_
    obtain ⟨c3, h⟩ := of_gd h
    refine kj_aald22 (pc := 16) C c3 dX6_put_16 ?_
    refine kj_ald2 (pc := 17) C dX6_put_17 ?_
    obtain ⟨q4, eq4, h⟩ := of_bind h
    refine kj_callVN0 (pc := 18) C (ct_X7_copyFrom (sd_2 c3) ho2 eq4) (Nat.le_of_ble_eq_true rfl) mi_X7_copyFrom ml_X6_28 (rc_st (sd_2 c3)) rfl rfl ar1 (Nat.le_of_ble_eq_true rfl) dX6_put_18 ?_
    refine kj_ald0 (pc := 21) C dX6_put_21 ?_
    refine kj_dup (pc := 22) C dX6_put_22 rfl ?_
    refine gf_X6_17 (pc := 23) C dX6_put_23 ?_
    refine kj_iconst (pc := 26) C (v := 1) dX6_put_26 ci_1 ?_
    refine kj_ild1 (pc := 27) C dX6_put_27 ?_
    refine kj_ishl (pc := 28) C dX6_put_28 ?_
    refine kj_ior (pc := 29) C dX6_put_29 ?_
    obtain ⟨M5, eM5, h⟩ := of_lt h
    refine pf_X6_17 (pc := 30) C dX6_put_30 ?_
    refine kj_nM eM5 ?_
    refine kj_iconst (pc := 33) C (v := 1) dX6_put_33 ci_1 ?_
    cases h
    exact kj_zret (pc := 34) C hr (by decide) hR dX6_put_34
  · have h := of_pos c2 h
    refine kj_iconst (pc := 9) C (v := 0) dX6_put_9 ci_0 ?_
    cases h
    exact kj_zret (pc := 10) C hr (by decide) hR dX6_put_10
def f_X6_giveBack_20 (o2 : Nat) (M : Mem) : Option (Int32 × Mem) := some ((0 : Int32), M)
set_option maxHeartbeats 4000000 in
set_option maxRecDepth 100000 in
theorem k_X6_giveBack_20 {g : GT} {X : XT} {o2 : Nat} {t : Int32 × Mem} (C : Cx g X cX6_giveBack RX6 3 3) (hr : (xt X).sig.returnType = some .boolean) (hR : Rt g X (some (.int t.1)) t.2) (ho2 : o2 < 18) : ∀ (M : Mem) (w0 w1 w2 : Option Value), f_X6_giveBack_20 o2 M = some t → Kj g X 3 20 [w0, w1, w2] [] M := by
  intro M w0 w1 w2 h
  unfold f_X6_giveBack_20 at h
  refine kj_iconst (pc := 20) C (v := 0) dX6_giveBack_20 ci_0 ?_
  cases h
  exact kj_zret (pc := 21) C hr (by decide) hR dX6_giveBack_21
def f_X6_giveBack (o2 : Nat) (v1 : Int32) (M : Mem) : Option (Int32 × Mem) := (f_X9_isWithin v1 0 1 M).bind (fun q1 => if q1 = 0 then f_X6_giveBack_20 o2 M else if (((M.1 22 0 1) >>> (v1 &&& 31)) &&& (1 : Int32)) = 0 then f_X6_giveBack_20 o2 M else if ¬ (v1 < 0 ∨ 2 ≤ v1.toNatClampNeg) then (f_X7_copyFrom o2 (16 + v1.toNatClampNeg) M).bind (fun q5 => some ((1 : Int32), q5)) else none)
set_option maxHeartbeats 4000000 in
set_option maxRecDepth 100000 in
theorem ct_X6_giveBack {g : GT} {l : Launch} {o2 : Nat} {v1 : Int32} {M : Mem} {t : Int32 × Mem} (ho2 : o2 < 18) (h : f_X6_giveBack o2 v1 M = some t) : Ct g l 3 yX6_giveBack cX6_giveBack 3 (some .boolean) [.ref (ga g 22 0), .int v1, .ref (ga g o2 0)] M (some (.int t.1)) t.2 := by
  refine ct_of (k := 0) (by decide) (Nat.le_of_ble_eq_true rfl) rfl (fun X C hl hr hR => ?_)
  subst hl
  have C : Cx g X cX6_giveBack RX6 3 3 := C
  unfold f_X6_giveBack at h
  refine kj_ild1 (pc := 0) C dX6_giveBack_0 ?_
  refine kj_iconst (pc := 1) C (v := 0) dX6_giveBack_1 ci_0 ?_
  refine kj_iconst (pc := 2) C (v := 1) dX6_giveBack_2 ci_1 ?_
  obtain ⟨q1, eq1, h⟩ := of_bind h
  refine kj_callSN1 (pc := 3) C (ct_X9_isWithin eq1) (Nat.le_of_ble_eq_true rfl) mi_X9_isWithin ml_X6_24 rfl as3 (Nat.le_of_ble_eq_true rfl) dX6_giveBack_3 ?_
  refine kj_if_eq (pc := 6) C dX6_giveBack_6 (tgt := 20) (by decide) (fun c2 => ?_) (fun c2 => ?_)
  · have h := of_pos c2 h
    exact k_X6_giveBack_20 C hr hR ho2  _ _ _ _ h
  · have h := of_neg c2 h
    refine kj_ald0 (pc := 9) C dX6_giveBack_9 ?_
    refine gf_X6_17 (pc := 10) C dX6_giveBack_10 ?_
    refine kj_ild1 (pc := 13) C dX6_giveBack_13 ?_
    refine kj_ishr (pc := 14) C dX6_giveBack_14 ?_
    refine kj_iconst (pc := 15) C (v := 1) dX6_giveBack_15 ci_1 ?_
    refine kj_iand (pc := 16) C dX6_giveBack_16 ?_
    refine kj_if_ne (pc := 17) C dX6_giveBack_17 (tgt := 22) (by decide) (fun c3 => ?_) (fun c3 => ?_)
    · have h := of_neg c3 h
      refine kj_ald2 (pc := 22) C dX6_giveBack_22 ?_
      refine kj_ald0 (pc := 23) C dX6_giveBack_23 ?_
      refine gf_X6_11 (pc := 24) C dX6_giveBack_24 ?_
      refine kj_ild1 (pc := 27) C dX6_giveBack_27 ?_
      obtain ⟨c4, h⟩ := of_gd h
      refine kj_aald22 (pc := 28) C c4 dX6_giveBack_28 ?_
      obtain ⟨q5, eq5, h⟩ := of_bind h
      refine kj_callVN0 (pc := 29) C (ct_X7_copyFrom ho2 (sd_2 c4) eq5) (Nat.le_of_ble_eq_true rfl) mi_X7_copyFrom ml_X6_28 (rc_st ho2) rfl rfl ar1 (Nat.le_of_ble_eq_true rfl) dX6_giveBack_29 ?_
      refine kj_iconst (pc := 32) C (v := 1) dX6_giveBack_32 ci_1 ?_
      cases h
      exact kj_zret (pc := 33) C hr (by decide) hR dX6_giveBack_33
    · have h := of_pos c3 h
      exact k_X6_giveBack_20 C hr hR ho2  _ _ _ _ h
def f_X7_isHeldOn_17 (o : Nat) (M : Mem) (s0 : Int32) : Option (Int32) := if s0 = 0 ∨ s0 = 1 then some s0 else none
set_option maxHeartbeats 4000000 in
set_option maxRecDepth 100000 in
theorem k_X7_isHeldOn_17 {g : GT} {X : XT} {o : Nat} {M : Mem} {t : Int32} (C : Cx g X cX7_isHeldOn RX7 2 0) (hr : (xt X).sig.returnType = some .boolean) (hR : Rt g X (some (.int t)) M) (ho : o < 18) : ∀ (s0 : Int32) (w0 w1 : Option Value), f_X7_isHeldOn_17 o M s0 = some t → Kj g X 2 17 [w0, w1] [.int s0] M := by
  intro s0 w0 w1 h
  unfold f_X7_isHeldOn_17 at h
  obtain ⟨c1, h⟩ := of_gd h
  cases h
  exact kj_zret (pc := 17) C hr c1 hR dX7_isHeldOn_17
def f_X7_isHeldOn (o : Nat) (v1 : Int32) (M : Mem) : Option (Int32) := if (((M.1 o 0 6) >>> (v1 &&& 31)) &&& (1 : Int32)) = 1 then f_X7_isHeldOn_17 o M 1 else f_X7_isHeldOn_17 o M 0
set_option maxHeartbeats 4000000 in
set_option maxRecDepth 100000 in
theorem ct_X7_isHeldOn {g : GT} {l : Launch} {o : Nat} {v1 : Int32} {M : Mem} {t : Int32} (ho : o < 18) (h : f_X7_isHeldOn o v1 M = some t) : Ct g l 0 yX7_isHeldOn cX7_isHeldOn 2 (some .boolean) [.ref (ga g o 0), .int v1] M (some (.int t)) M := by
  refine ct_of (k := 0) (by decide) (Nat.le_of_ble_eq_true rfl) rfl (fun X C hl hr hR => ?_)
  subst hl
  have C : Cx g X cX7_isHeldOn RX7 2 0 := C
  unfold f_X7_isHeldOn at h
  refine kj_ald0 (pc := 0) C dX7_isHeldOn_0 ?_
  refine gf_X7_28 (pc := 1) C ho dX7_isHeldOn_1 ?_
  refine kj_ild1 (pc := 4) C dX7_isHeldOn_4 ?_
  refine kj_ishr (pc := 5) C dX7_isHeldOn_5 ?_
  refine kj_iconst (pc := 6) C (v := 1) dX7_isHeldOn_6 ci_1 ?_
  refine kj_iand (pc := 7) C dX7_isHeldOn_7 ?_
  refine kj_iconst (pc := 8) C (v := 1) dX7_isHeldOn_8 ci_1 ?_
  refine kj_icmp_ne (pc := 9) C dX7_isHeldOn_9 (tgt := 16) (by decide) (fun c1 => ?_) (fun c1 => ?_)
  · have h := of_neg c1 h
    refine kj_iconst (pc := 16) C (v := 0) dX7_isHeldOn_16 ci_0 ?_
    exact k_X7_isHeldOn_17 C hr hR ho _ _ _ h
  · have h := of_pos c1 h
    refine kj_iconst (pc := 12) C (v := 1) dX7_isHeldOn_12 ci_1 ?_
    refine kj_goto (pc := 13) C dX7_isHeldOn_13 (tgt := 17) (by decide) ?_
    exact k_X7_isHeldOn_17 C hr hR ho _ _ _ h
def f_X7_seenBy_25 (o : Nat) (M : Mem) (k4 : Int32 → Int32 → Int32 → Option (Int32)) (v1 : Int32) (v2 : Int32) (v3 : Int32) : Option (Int32) := lt_ (v3 + 1) (fun x1 => k4 v1 v2 x1)
set_option maxHeartbeats 4000000 in
set_option maxRecDepth 100000 in
theorem k_X7_seenBy_25 {g : GT} {X : XT} {o : Nat} {M : Mem} {k4 : Int32 → Int32 → Int32 → Option (Int32)} {t : Int32} (C : Cx g X cX7_seenBy RX7 4 1) (hr : (xt X).sig.returnType = some .int) (hR : Rt g X (some (.int t)) M) (ho : o < 18) (hk4 : ∀ (v1 : Int32) (v2 : Int32) (v3 : Int32), k4 v1 v2 v3 = some t → Kj g X 4 4 [some (.ref (ga g o 0)), some (.int v1), some (.int v2), some (.int v3)] [] M) : ∀ (v1 : Int32) (v2 : Int32) (v3 : Int32), f_X7_seenBy_25 o M k4 v1 v2 v3 = some t → Kj g X 4 25 [some (.ref (ga g o 0)), some (.int v1), some (.int v2), some (.int v3)] [] M := by
  intro v1 v2 v3 h
  unfold f_X7_seenBy_25 at h
  obtain ⟨x1, ex1, h⟩ := of_lt h
  refine kj_iinc3 (pc := 25) C (v := x1) dX7_seenBy_25 (Nat.le_of_ble_eq_true rfl) rfl (by rw [ex1, ci_1]) ?_
  refine kj_goto (pc := 28) C dX7_seenBy_28 (tgt := 4) (by decide) ?_
  exact hk4 _ _ _ h
def f_X7_seenBy_4 (o : Nat) (M : Mem) (n : Nat) (v1 : Int32) (v2 : Int32) (v3 : Int32) : Option (Int32) := match n with
  | 0 => none
  | n + 1 => if 6 ≤ v3 then some v2 else (f_X7_isSeen o v1 v3 M).bind (fun q2 => if q2 = 0 then f_X7_seenBy_25 o M (f_X7_seenBy_4 o M n) v1 v2 v3 else lt_ (v2 ||| ((1 : Int32) <<< (v3 &&& 31))) (fun x4 => f_X7_seenBy_25 o M (f_X7_seenBy_4 o M n) v1 x4 v3))
set_option maxHeartbeats 4000000 in
set_option maxRecDepth 100000 in
theorem k_X7_seenBy_4 {g : GT} {X : XT} {o : Nat} {M : Mem} {t : Int32} (C : Cx g X cX7_seenBy RX7 4 1) (hr : (xt X).sig.returnType = some .int) (hR : Rt g X (some (.int t)) M) (ho : o < 18) (n : Nat) : ∀ (v1 : Int32) (v2 : Int32) (v3 : Int32), f_X7_seenBy_4 o M n v1 v2 v3 = some t → Kj g X 4 4 [some (.ref (ga g o 0)), some (.int v1), some (.int v2), some (.int v3)] [] M := by
  induction n with
  | zero => intro v1 v2 v3 h; rw [f_X7_seenBy_4] at h; cases h
  | succ n ih =>
    intro v1 v2 v3 h
    rw [f_X7_seenBy_4] at h
    refine kj_ild3 (pc := 4) C dX7_seenBy_4 ?_
    refine kj_bipush (pc := 5) C (v := 6) dX7_seenBy_5 cb_6 ?_
    refine kj_icmp_ge (pc := 7) C dX7_seenBy_7 (tgt := 31) (by decide) (fun c1 => ?_) (fun c1 => ?_)
    · have h := of_pos c1 h
      refine kj_ild2 (pc := 31) C dX7_seenBy_31 ?_
      cases h
      exact kj_iret (pc := 32) C hr hR dX7_seenBy_32
    · have h := of_neg c1 h
      refine kj_ald0 (pc := 10) C dX7_seenBy_10 ?_
      refine kj_ild1 (pc := 11) C dX7_seenBy_11 ?_
      refine kj_ild3 (pc := 12) C dX7_seenBy_12 ?_
      obtain ⟨q2, eq2, h⟩ := of_bind h
      refine kj_callV1 (pc := 13) C (ct_X7_isSeen ho eq2) (Nat.le_of_ble_eq_true rfl) mi_X7_isSeen ml_X7_49 (rc_st ho) rfl rfl ar2 (Nat.le_of_ble_eq_true rfl) dX7_seenBy_13 ?_
      refine kj_if_eq (pc := 16) C dX7_seenBy_16 (tgt := 25) (by decide) (fun c3 => ?_) (fun c3 => ?_)
      · have h := of_pos c3 h
        exact k_X7_seenBy_25 C hr hR ho ih _ _ _ h
      · have h := of_neg c3 h
        refine kj_ild2 (pc := 19) C dX7_seenBy_19 ?_
        refine kj_iconst (pc := 20) C (v := 1) dX7_seenBy_20 ci_1 ?_
        refine kj_ild3 (pc := 21) C dX7_seenBy_21 ?_
        refine kj_ishl (pc := 22) C dX7_seenBy_22 ?_
        refine kj_ior (pc := 23) C dX7_seenBy_23 ?_
        obtain ⟨x4, ex4, h⟩ := of_lt h
        refine kj_ni ex4 ?_
        refine kj_ist2 (pc := 24) C dX7_seenBy_24 (Nat.le_of_ble_eq_true rfl) rfl ?_
        exact k_X7_seenBy_25 C hr hR ho ih _ _ _ h
def f_X7_seenBy (o : Nat) (v1 : Int32) (M : Mem) : Option (Int32) := f_X7_seenBy_4 o M 100 v1 0 0
set_option maxHeartbeats 4000000 in
set_option maxRecDepth 100000 in
theorem ct_X7_seenBy {g : GT} {l : Launch} {o : Nat} {v1 : Int32} {M : Mem} {t : Int32} (ho : o < 18) (h : f_X7_seenBy o v1 M = some t) : Ct g l 1 yX7_seenBy cX7_seenBy 4 (some .int) [.ref (ga g o 0), .int v1] M (some (.int t)) M := by
  refine ct_of (k := 2) (by decide) (Nat.le_of_ble_eq_true rfl) rfl (fun X C hl hr hR => ?_)
  subst hl
  have C : Cx g X cX7_seenBy RX7 4 1 := C
  unfold f_X7_seenBy at h
  refine kj_iconst (pc := 0) C (v := 0) dX7_seenBy_0 ci_0 ?_
  refine kj_ist2 (pc := 1) C dX7_seenBy_1 (Nat.le_of_ble_eq_true rfl) rfl ?_
  refine kj_iconst (pc := 2) C (v := 0) dX7_seenBy_2 ci_0 ?_
  refine kj_ist3 (pc := 3) C dX7_seenBy_3 (Nat.le_of_ble_eq_true rfl) rfl ?_
  exact k_X7_seenBy_4 C hr hR ho 100 _ _ _ h
def f_X7_turnHeldOn (o : Nat) (v1 : Int32) (M : Mem) : Option (Mem) := lt_ (sw M o 0 6 ((M.1 o 0 6) ^^^ ((1 : Int32) <<< (v1 &&& 31)))) (fun M1 => some M1)
set_option maxHeartbeats 4000000 in
set_option maxRecDepth 100000 in
theorem ct_X7_turnHeldOn {g : GT} {l : Launch} {o : Nat} {v1 : Int32} {M : Mem} {t : Mem} (ho : o < 18) (h : f_X7_turnHeldOn o v1 M = some t) : Ct g l 0 yX7_turnHeldOn cX7_turnHeldOn 2 (none) [.ref (ga g o 0), .int v1] M (none) t := by
  refine ct_of (k := 0) (by decide) (Nat.le_of_ble_eq_true rfl) rfl (fun X C hl hr hR => ?_)
  subst hl
  have C : Cx g X cX7_turnHeldOn RX7 2 0 := C
  unfold f_X7_turnHeldOn at h
  refine kj_ald0 (pc := 0) C dX7_turnHeldOn_0 ?_
  refine kj_dup (pc := 1) C dX7_turnHeldOn_1 rfl ?_
  refine gf_X7_28 (pc := 2) C ho dX7_turnHeldOn_2 ?_
  refine kj_iconst (pc := 5) C (v := 1) dX7_turnHeldOn_5 ci_1 ?_
  refine kj_ild1 (pc := 6) C dX7_turnHeldOn_6 ?_
  refine kj_ishl (pc := 7) C dX7_turnHeldOn_7 ?_
  refine kj_ixor (pc := 8) C dX7_turnHeldOn_8 ?_
  obtain ⟨M1, eM1, h⟩ := of_lt h
  refine pf_X7_28 (pc := 9) C ho dX7_turnHeldOn_9 ?_
  refine kj_nM eM1 ?_
  cases h
  exact kj_vret (pc := 12) C hr hR dX7_turnHeldOn_12
def f_X7_whoIsAt_28 (o : Nat) (M : Mem) (k2 : Int32 → Int32 → Option (Int32)) (v1 : Int32) (v2 : Int32) : Option (Int32) := lt_ (v2 + 1) (fun x1 => k2 v1 x1)
set_option maxHeartbeats 4000000 in
set_option maxRecDepth 100000 in
theorem k_X7_whoIsAt_28 {g : GT} {X : XT} {o : Nat} {M : Mem} {k2 : Int32 → Int32 → Option (Int32)} {t : Int32} (C : Cx g X cX7_whoIsAt RX7 3 1) (hr : (xt X).sig.returnType = some .int) (hR : Rt g X (some (.int t)) M) (ho : o < 18) (hk2 : ∀ (v1 : Int32) (v2 : Int32), k2 v1 v2 = some t → Kj g X 3 2 [some (.ref (ga g o 0)), some (.int v1), some (.int v2)] [] M) : ∀ (v1 : Int32) (v2 : Int32), f_X7_whoIsAt_28 o M k2 v1 v2 = some t → Kj g X 3 28 [some (.ref (ga g o 0)), some (.int v1), some (.int v2)] [] M := by
  intro v1 v2 h
  unfold f_X7_whoIsAt_28 at h
  obtain ⟨x1, ex1, h⟩ := of_lt h
  refine kj_iinc2 (pc := 28) C (v := x1) dX7_whoIsAt_28 (Nat.le_of_ble_eq_true rfl) rfl (by rw [ex1, ci_1]) ?_
  refine kj_goto (pc := 31) C dX7_whoIsAt_31 (tgt := 2) (by decide) ?_
  exact hk2 _ _ h
def f_X7_whoIsAt_2 (o : Nat) (M : Mem) (n : Nat) (v1 : Int32) (v2 : Int32) : Option (Int32) := match n with
  | 0 => none
  | n + 1 => if 6 ≤ v2 then some ((-9) : Int32) else (f_X7_isThere o v2 M).bind (fun q2 => if q2 = 0 then f_X7_whoIsAt_28 o M (f_X7_whoIsAt_2 o M n) v1 v2 else if ¬ (v2 < 0 ∨ 6 ≤ v2.toNatClampNeg) then if (M.1 o 1 v2.toNatClampNeg) = v1 then some v2 else f_X7_whoIsAt_28 o M (f_X7_whoIsAt_2 o M n) v1 v2 else none)
set_option maxHeartbeats 4000000 in
set_option maxRecDepth 100000 in
theorem k_X7_whoIsAt_2 {g : GT} {X : XT} {o : Nat} {M : Mem} {t : Int32} (C : Cx g X cX7_whoIsAt RX7 3 1) (hr : (xt X).sig.returnType = some .int) (hR : Rt g X (some (.int t)) M) (ho : o < 18) (n : Nat) : ∀ (v1 : Int32) (v2 : Int32), f_X7_whoIsAt_2 o M n v1 v2 = some t → Kj g X 3 2 [some (.ref (ga g o 0)), some (.int v1), some (.int v2)] [] M := by
  induction n with
  | zero => intro v1 v2 h; rw [f_X7_whoIsAt_2] at h; cases h
  | succ n ih =>
    intro v1 v2 h
    rw [f_X7_whoIsAt_2] at h
    refine kj_ild2 (pc := 2) C dX7_whoIsAt_2 ?_
    refine kj_bipush (pc := 3) C (v := 6) dX7_whoIsAt_3 cb_6 ?_
    refine kj_icmp_ge (pc := 5) C dX7_whoIsAt_5 (tgt := 34) (by decide) (fun c1 => ?_) (fun c1 => ?_)
    · have h := of_pos c1 h
      refine kj_bipush (pc := 34) C (v := (-9)) dX7_whoIsAt_34 cb_m9 ?_
      cases h
      exact kj_iret (pc := 36) C hr hR dX7_whoIsAt_36
    · have h := of_neg c1 h
      refine kj_ald0 (pc := 8) C dX7_whoIsAt_8 ?_
      refine kj_ild2 (pc := 9) C dX7_whoIsAt_9 ?_
      obtain ⟨q2, eq2, h⟩ := of_bind h
      refine kj_callV1 (pc := 10) C (ct_X7_isThere ho eq2) (Nat.le_of_ble_eq_true rfl) mi_X7_isThere ml_X7_76 (rc_st ho) rfl rfl ar1 (Nat.le_of_ble_eq_true rfl) dX7_whoIsAt_10 ?_
      refine kj_if_eq (pc := 13) C dX7_whoIsAt_13 (tgt := 28) (by decide) (fun c3 => ?_) (fun c3 => ?_)
      · have h := of_pos c3 h
        exact k_X7_whoIsAt_28 C hr hR ho ih _ _ h
      · have h := of_neg c3 h
        refine kj_ald0 (pc := 16) C dX7_whoIsAt_16 ?_
        refine gf_X7_9 (pc := 17) C ho dX7_whoIsAt_17 ?_
        refine kj_ild2 (pc := 20) C dX7_whoIsAt_20 ?_
        obtain ⟨c4, h⟩ := of_gd h
        refine kj_iald2 (pc := 21) C (ia_st ho ⟨by decide, by decide⟩) c4 dX7_whoIsAt_21 ?_
        refine kj_ild1 (pc := 22) C dX7_whoIsAt_22 ?_
        refine kj_icmp_ne (pc := 23) C dX7_whoIsAt_23 (tgt := 28) (by decide) (fun c5 => ?_) (fun c5 => ?_)
        · have h := of_neg c5 h
          exact k_X7_whoIsAt_28 C hr hR ho ih _ _ h
        · have h := of_pos c5 h
          refine kj_ild2 (pc := 26) C dX7_whoIsAt_26 ?_
          cases h
          exact kj_iret (pc := 27) C hr hR dX7_whoIsAt_27
def f_X7_whoIsAt (o : Nat) (v1 : Int32) (M : Mem) : Option (Int32) := f_X7_whoIsAt_2 o M 100 v1 0
set_option maxHeartbeats 4000000 in
set_option maxRecDepth 100000 in
theorem ct_X7_whoIsAt {g : GT} {l : Launch} {o : Nat} {v1 : Int32} {M : Mem} {t : Int32} (ho : o < 18) (h : f_X7_whoIsAt o v1 M = some t) : Ct g l 1 yX7_whoIsAt cX7_whoIsAt 3 (some .int) [.ref (ga g o 0), .int v1] M (some (.int t)) M := by
  refine ct_of (k := 1) (by decide) (Nat.le_of_ble_eq_true rfl) rfl (fun X C hl hr hR => ?_)
  subst hl
  have C : Cx g X cX7_whoIsAt RX7 3 1 := C
  unfold f_X7_whoIsAt at h
  refine kj_iconst (pc := 0) C (v := 0) dX7_whoIsAt_0 ci_0 ?_
  refine kj_ist2 (pc := 1) C dX7_whoIsAt_1 (Nat.le_of_ble_eq_true rfl) rfl ?_
  exact k_X7_whoIsAt_2 C hr hR ho 100 _ _ h
def f_X7_seatsTaken (o : Nat) (M : Mem) : Option (Int32) := (f_X7_bitsOf o 1 M).bind (fun q1 => some q1)
set_option maxHeartbeats 4000000 in
set_option maxRecDepth 100000 in
theorem ct_X7_seatsTaken {g : GT} {l : Launch} {o : Nat} {M : Mem} {t : Int32} (ho : o < 18) (h : f_X7_seatsTaken o M = some t) : Ct g l 2 yX7_seatsTaken cX7_seatsTaken 1 (some .int) [.ref (ga g o 0)] M (some (.int t)) M := by
  refine ct_of (k := 0) (by decide) (Nat.le_of_ble_eq_true rfl) rfl (fun X C hl hr hR => ?_)
  subst hl
  have C : Cx g X cX7_seatsTaken RX7 1 2 := C
  unfold f_X7_seatsTaken at h
  refine kj_ald0 (pc := 0) C dX7_seatsTaken_0 ?_
  refine kj_ald0 (pc := 1) C dX7_seatsTaken_1 ?_
  refine gf_X7_9 (pc := 2) C ho dX7_seatsTaken_2 ?_
  obtain ⟨q1, eq1, h⟩ := of_bind h
  refine kj_callV1 (pc := 5) C (ct_X7_bitsOf ho ⟨by decide, by decide⟩ eq1) (Nat.le_of_ble_eq_true rfl) mi_X7_bitsOf ml_X7_82 (rc_st ho) rfl rfl ar1 (Nat.le_of_ble_eq_true rfl) dX7_seatsTaken_5 ?_
  cases h
  exact kj_iret (pc := 8) C hr hR dX7_seatsTaken_8
def f_X7_goodsOfAll_27 (o : Nat) (M : Mem) (k4 : Int32 → Int32 → Option (Int32)) (v1 : Int32) (v2 : Int32) : Option (Int32) := lt_ (v2 + 1) (fun x1 => k4 v1 x1)
set_option maxHeartbeats 4000000 in
set_option maxRecDepth 100000 in
theorem k_X7_goodsOfAll_27 {g : GT} {X : XT} {o : Nat} {M : Mem} {k4 : Int32 → Int32 → Option (Int32)} {t : Int32} (C : Cx g X cX7_goodsOfAll RX7 3 1) (hr : (xt X).sig.returnType = some .int) (hR : Rt g X (some (.int t)) M) (ho : o < 18) (hk4 : ∀ (v1 : Int32) (v2 : Int32), k4 v1 v2 = some t → Kj g X 3 4 [some (.ref (ga g o 0)), some (.int v1), some (.int v2)] [] M) : ∀ (v1 : Int32) (v2 : Int32), f_X7_goodsOfAll_27 o M k4 v1 v2 = some t → Kj g X 3 27 [some (.ref (ga g o 0)), some (.int v1), some (.int v2)] [] M := by
  intro v1 v2 h
  unfold f_X7_goodsOfAll_27 at h
  obtain ⟨x1, ex1, h⟩ := of_lt h
  refine kj_iinc2 (pc := 27) C (v := x1) dX7_goodsOfAll_27 (Nat.le_of_ble_eq_true rfl) rfl (by rw [ex1, ci_1]) ?_
  refine kj_goto (pc := 30) C dX7_goodsOfAll_30 (tgt := 4) (by decide) ?_
  exact hk4 _ _ h
def f_X7_goodsOfAll_4 (o : Nat) (M : Mem) (n : Nat) (v1 : Int32) (v2 : Int32) : Option (Int32) := match n with
  | 0 => none
  | n + 1 => if 6 ≤ v2 then some v1 else (f_X7_isThere o v2 M).bind (fun q2 => if q2 = 0 then f_X7_goodsOfAll_27 o M (f_X7_goodsOfAll_4 o M n) v1 v2 else if ¬ (v2 < 0 ∨ 6 ≤ v2.toNatClampNeg) then lt_ (v1 + (M.1 o 2 v2.toNatClampNeg)) (fun x5 => f_X7_goodsOfAll_27 o M (f_X7_goodsOfAll_4 o M n) x5 v2) else none)
set_option maxHeartbeats 4000000 in
set_option maxRecDepth 100000 in
theorem k_X7_goodsOfAll_4 {g : GT} {X : XT} {o : Nat} {M : Mem} {t : Int32} (C : Cx g X cX7_goodsOfAll RX7 3 1) (hr : (xt X).sig.returnType = some .int) (hR : Rt g X (some (.int t)) M) (ho : o < 18) (n : Nat) : ∀ (v1 : Int32) (v2 : Int32), f_X7_goodsOfAll_4 o M n v1 v2 = some t → Kj g X 3 4 [some (.ref (ga g o 0)), some (.int v1), some (.int v2)] [] M := by
  induction n with
  | zero => intro v1 v2 h; rw [f_X7_goodsOfAll_4] at h; cases h
  | succ n ih =>
    intro v1 v2 h
    rw [f_X7_goodsOfAll_4] at h
    refine kj_ild2 (pc := 4) C dX7_goodsOfAll_4 ?_
    refine kj_bipush (pc := 5) C (v := 6) dX7_goodsOfAll_5 cb_6 ?_
    refine kj_icmp_ge (pc := 7) C dX7_goodsOfAll_7 (tgt := 33) (by decide) (fun c1 => ?_) (fun c1 => ?_)
    · have h := of_pos c1 h
      refine kj_ild1 (pc := 33) C dX7_goodsOfAll_33 ?_
      cases h
      exact kj_iret (pc := 34) C hr hR dX7_goodsOfAll_34
    · have h := of_neg c1 h
      refine kj_ald0 (pc := 10) C dX7_goodsOfAll_10 ?_
      refine kj_ild2 (pc := 11) C dX7_goodsOfAll_11 ?_
      obtain ⟨q2, eq2, h⟩ := of_bind h
      refine kj_callV1 (pc := 12) C (ct_X7_isThere ho eq2) (Nat.le_of_ble_eq_true rfl) mi_X7_isThere ml_X7_76 (rc_st ho) rfl rfl ar1 (Nat.le_of_ble_eq_true rfl) dX7_goodsOfAll_12 ?_
      refine kj_if_eq (pc := 15) C dX7_goodsOfAll_15 (tgt := 27) (by decide) (fun c3 => ?_) (fun c3 => ?_)
      · have h := of_pos c3 h
        exact k_X7_goodsOfAll_27 C hr hR ho ih _ _ h
      · have h := of_neg c3 h
        refine kj_ild1 (pc := 18) C dX7_goodsOfAll_18 ?_
        refine kj_ald0 (pc := 19) C dX7_goodsOfAll_19 ?_
        refine gf_X7_15 (pc := 20) C ho dX7_goodsOfAll_20 ?_
        refine kj_ild2 (pc := 23) C dX7_goodsOfAll_23 ?_
        obtain ⟨c4, h⟩ := of_gd h
        refine kj_iald2 (pc := 24) C (ia_st ho ⟨by decide, by decide⟩) c4 dX7_goodsOfAll_24 ?_
        refine kj_iadd (pc := 25) C dX7_goodsOfAll_25 ?_
        obtain ⟨x5, ex5, h⟩ := of_lt h
        refine kj_ni ex5 ?_
        refine kj_ist1 (pc := 26) C dX7_goodsOfAll_26 (Nat.le_of_ble_eq_true rfl) rfl ?_
        exact k_X7_goodsOfAll_27 C hr hR ho ih _ _ h
def f_X7_goodsOfAll (o : Nat) (M : Mem) : Option (Int32) := f_X7_goodsOfAll_4 o M 100 0 0
set_option maxHeartbeats 4000000 in
set_option maxRecDepth 100000 in
theorem ct_X7_goodsOfAll {g : GT} {l : Launch} {o : Nat} {M : Mem} {t : Int32} (ho : o < 18) (h : f_X7_goodsOfAll o M = some t) : Ct g l 1 yX7_goodsOfAll cX7_goodsOfAll 3 (some .int) [.ref (ga g o 0)] M (some (.int t)) M := by
  refine ct_of (k := 2) (by decide) (Nat.le_of_ble_eq_true rfl) rfl (fun X C hl hr hR => ?_)
  subst hl
  have C : Cx g X cX7_goodsOfAll RX7 3 1 := C
  unfold f_X7_goodsOfAll at h
  refine kj_iconst (pc := 0) C (v := 0) dX7_goodsOfAll_0 ci_0 ?_
  refine kj_ist1 (pc := 1) C dX7_goodsOfAll_1 (Nat.le_of_ble_eq_true rfl) rfl ?_
  refine kj_iconst (pc := 2) C (v := 0) dX7_goodsOfAll_2 ci_0 ?_
  refine kj_ist2 (pc := 3) C dX7_goodsOfAll_3 (Nat.le_of_ble_eq_true rfl) rfl ?_
  exact k_X7_goodsOfAll_4 C hr hR ho 100 _ _ h
def f_X7_envious_34 (o : Nat) (M : Mem) (k4 : Int32 → Int32 → Option (Int32)) (v1 : Int32) (v2 : Int32) : Option (Int32) := lt_ (v2 + 1) (fun x1 => k4 v1 x1)
set_option maxHeartbeats 4000000 in
set_option maxRecDepth 100000 in
theorem k_X7_envious_34 {g : GT} {X : XT} {o : Nat} {M : Mem} {k4 : Int32 → Int32 → Option (Int32)} {t : Int32} (C : Cx g X cX7_envious RX7 3 2) (hr : (xt X).sig.returnType = some .int) (hR : Rt g X (some (.int t)) M) (ho : o < 18) (hk4 : ∀ (v1 : Int32) (v2 : Int32), k4 v1 v2 = some t → Kj g X 3 4 [some (.ref (ga g o 0)), some (.int v1), some (.int v2)] [] M) : ∀ (v1 : Int32) (v2 : Int32), f_X7_envious_34 o M k4 v1 v2 = some t → Kj g X 3 34 [some (.ref (ga g o 0)), some (.int v1), some (.int v2)] [] M := by
  intro v1 v2 h
  unfold f_X7_envious_34 at h
  obtain ⟨x1, ex1, h⟩ := of_lt h
  refine kj_iinc2 (pc := 34) C (v := x1) dX7_envious_34 (Nat.le_of_ble_eq_true rfl) rfl (by rw [ex1, ci_1]) ?_
  refine kj_goto (pc := 37) C dX7_envious_37 (tgt := 4) (by decide) ?_
  exact hk4 _ _ h
def f_X7_envious_4 (o : Nat) (M : Mem) (n : Nat) (v1 : Int32) (v2 : Int32) : Option (Int32) := match n with
  | 0 => none
  | n + 1 => if 6 ≤ v2 then some v1 else (f_X7_isThere o v2 M).bind (fun q2 => if q2 = 0 then f_X7_envious_34 o M (f_X7_envious_4 o M n) v1 v2 else (f_X7_enviedBy o v2 M).bind (fun q4 => if q4 = (-9) then f_X7_envious_34 o M (f_X7_envious_4 o M n) v1 v2 else lt_ (v1 ||| ((1 : Int32) <<< (v2 &&& 31))) (fun x6 => f_X7_envious_34 o M (f_X7_envious_4 o M n) x6 v2)))
set_option maxHeartbeats 4000000 in
set_option maxRecDepth 100000 in
theorem k_X7_envious_4 {g : GT} {X : XT} {o : Nat} {M : Mem} {t : Int32} (C : Cx g X cX7_envious RX7 3 2) (hr : (xt X).sig.returnType = some .int) (hR : Rt g X (some (.int t)) M) (ho : o < 18) (n : Nat) : ∀ (v1 : Int32) (v2 : Int32), f_X7_envious_4 o M n v1 v2 = some t → Kj g X 3 4 [some (.ref (ga g o 0)), some (.int v1), some (.int v2)] [] M := by
  induction n with
  | zero => intro v1 v2 h; rw [f_X7_envious_4] at h; cases h
  | succ n ih =>
    intro v1 v2 h
    rw [f_X7_envious_4] at h
    refine kj_ild2 (pc := 4) C dX7_envious_4 ?_
    refine kj_bipush (pc := 5) C (v := 6) dX7_envious_5 cb_6 ?_
    refine kj_icmp_ge (pc := 7) C dX7_envious_7 (tgt := 40) (by decide) (fun c1 => ?_) (fun c1 => ?_)
    · have h := of_pos c1 h
      refine kj_ild1 (pc := 40) C dX7_envious_40 ?_
      cases h
      exact kj_iret (pc := 41) C hr hR dX7_envious_41
    · have h := of_neg c1 h
      refine kj_ald0 (pc := 10) C dX7_envious_10 ?_
      refine kj_ild2 (pc := 11) C dX7_envious_11 ?_
      obtain ⟨q2, eq2, h⟩ := of_bind h
      refine kj_callV1 (pc := 12) C (ct_X7_isThere ho eq2) (Nat.le_of_ble_eq_true rfl) mi_X7_isThere ml_X7_76 (rc_st ho) rfl rfl ar1 (Nat.le_of_ble_eq_true rfl) dX7_envious_12 ?_
      refine kj_if_eq (pc := 15) C dX7_envious_15 (tgt := 34) (by decide) (fun c3 => ?_) (fun c3 => ?_)
      · have h := of_pos c3 h
        exact k_X7_envious_34 C hr hR ho ih _ _ h
      · have h := of_neg c3 h
        refine kj_ald0 (pc := 18) C dX7_envious_18 ?_
        refine kj_ild2 (pc := 19) C dX7_envious_19 ?_
        obtain ⟨q4, eq4, h⟩ := of_bind h
        refine kj_callV1 (pc := 20) C (ct_X7_enviedBy ho eq4) (Nat.le_of_ble_eq_true rfl) mi_X7_enviedBy ml_X7_57 (rc_st ho) rfl rfl ar1 (Nat.le_of_ble_eq_true rfl) dX7_envious_20 ?_
        refine kj_bipush (pc := 23) C (v := (-9)) dX7_envious_23 cb_m9 ?_
        refine kj_icmp_eq (pc := 25) C dX7_envious_25 (tgt := 34) (by decide) (fun c5 => ?_) (fun c5 => ?_)
        · have h := of_pos c5 h
          exact k_X7_envious_34 C hr hR ho ih _ _ h
        · have h := of_neg c5 h
          refine kj_ild1 (pc := 28) C dX7_envious_28 ?_
          refine kj_iconst (pc := 29) C (v := 1) dX7_envious_29 ci_1 ?_
          refine kj_ild2 (pc := 30) C dX7_envious_30 ?_
          refine kj_ishl (pc := 31) C dX7_envious_31 ?_
          refine kj_ior (pc := 32) C dX7_envious_32 ?_
          obtain ⟨x6, ex6, h⟩ := of_lt h
          refine kj_ni ex6 ?_
          refine kj_ist1 (pc := 33) C dX7_envious_33 (Nat.le_of_ble_eq_true rfl) rfl ?_
          exact k_X7_envious_34 C hr hR ho ih _ _ h
def f_X7_envious (o : Nat) (M : Mem) : Option (Int32) := f_X7_envious_4 o M 100 0 0
set_option maxHeartbeats 4000000 in
set_option maxRecDepth 100000 in
theorem ct_X7_envious {g : GT} {l : Launch} {o : Nat} {M : Mem} {t : Int32} (ho : o < 18) (h : f_X7_envious o M = some t) : Ct g l 2 yX7_envious cX7_envious 3 (some .int) [.ref (ga g o 0)] M (some (.int t)) M := by
  refine ct_of (k := 2) (by decide) (Nat.le_of_ble_eq_true rfl) rfl (fun X C hl hr hR => ?_)
  subst hl
  have C : Cx g X cX7_envious RX7 3 2 := C
  unfold f_X7_envious at h
  refine kj_iconst (pc := 0) C (v := 0) dX7_envious_0 ci_0 ?_
  refine kj_ist1 (pc := 1) C dX7_envious_1 (Nat.le_of_ble_eq_true rfl) rfl ?_
  refine kj_iconst (pc := 2) C (v := 0) dX7_envious_2 ci_0 ?_
  refine kj_ist2 (pc := 3) C dX7_envious_3 (Nat.le_of_ble_eq_true rfl) rfl ?_
  exact k_X7_envious_4 C hr hR ho 100 _ _ h
def f_X8_happen_139 (M : Mem) : Option (Mem) := some M
set_option maxHeartbeats 4000000 in
set_option maxRecDepth 100000 in
theorem k_X8_happen_139 {g : GT} {X : XT} {t : Mem} (C : Cx g X cX8_happen RX8 2 4) (hr : (xt X).sig.returnType = none) (hR : Rt g X none t) : ∀ (M : Mem) (w0 w1 : Option Value), f_X8_happen_139 M = some t → Kj g X 2 139 [w0, w1] [] M := by
  intro M w0 w1 h
  unfold f_X8_happen_139 at h
  cases h
  exact kj_vret (pc := 139) C hr hR dX8_happen_139
def f_X8_happen (v1 : Int32) (M : Mem) : Option (Mem) := if 6 ≤ v1 then if 12 ≤ v1 then if 17 ≤ v1 then if v1 = 17 then (f_X7_takeVoices 1 M).bind (fun q6 => f_X8_happen_139 q6) else (f_X7_goOn 1 1 M).bind (fun q5 => f_X8_happen_139 q5) else (f_X7_isThere 1 (v1 - (12 : Int32)) M).bind (fun q7 => if q7 = 0 then f_X8_happen_139 M else (f_X7_isThere 1 (v1 - (11 : Int32)) M).bind (fun q9 => if q9 = 0 then f_X8_happen_139 M else (f_X7_swapSeats 1 (v1 - (12 : Int32)) (v1 - (11 : Int32)) M).bind (fun q11 => f_X8_happen_139 q11))) else (f_X7_isThere 1 (v1 - (6 : Int32)) M).bind (fun q12 => if q12 = 0 then f_X8_happen_139 M else (f_X7_turnHeldOn 1 (v1 - (6 : Int32)) M).bind (fun q14 => f_X8_happen_139 q14)) else (f_X7_isThere 1 v1 M).bind (fun q15 => if q15 = 0 then f_X8_happen_139 M else (f_X7_give 1 v1 1 M).bind (fun q17 => f_X8_happen_139 q17))
set_option maxHeartbeats 4000000 in
set_option maxRecDepth 100000 in
theorem ct_X8_happen {g : GT} {l : Launch} {v1 : Int32} {M : Mem} {t : Mem} (h : f_X8_happen v1 M = some t) : Ct g l 4 yX8_happen cX8_happen 2 (none) [.ref (ga g 26 0), .int v1] M (none) t := by
  refine ct_of (k := 0) (by decide) (Nat.le_of_ble_eq_true rfl) rfl (fun X C hl hr hR => ?_)
  subst hl
  have C : Cx g X cX8_happen RX8 2 4 := C
  unfold f_X8_happen at h
  refine kj_ild1 (pc := 0) C dX8_happen_0 ?_
  refine kj_bipush (pc := 1) C (v := 6) dX8_happen_1 cb_6 ?_
  refine kj_icmp_ge (pc := 3) C dX8_happen_3 (tgt := 29) (by decide) (fun c1 => ?_) (fun c1 => ?_)
  · have h := of_pos c1 h
    refine kj_ild1 (pc := 29) C dX8_happen_29 ?_
    refine kj_bipush (pc := 30) C (v := 12) dX8_happen_30 cb_12 ?_
    refine kj_icmp_ge (pc := 32) C dX8_happen_32 (tgt := 63) (by decide) (fun c2 => ?_) (fun c2 => ?_)
    · have h := of_pos c2 h
      refine kj_ild1 (pc := 63) C dX8_happen_63 ?_
      refine kj_bipush (pc := 64) C (v := 17) dX8_happen_64 cb_17 ?_
      refine kj_icmp_ge (pc := 66) C dX8_happen_66 (tgt := 115) (by decide) (fun c3 => ?_) (fun c3 => ?_)
      · have h := of_pos c3 h
        refine kj_ild1 (pc := 115) C dX8_happen_115 ?_
        refine kj_bipush (pc := 116) C (v := 17) dX8_happen_116 cb_17 ?_
        refine kj_icmp_ne (pc := 118) C dX8_happen_118 (tgt := 131) (by decide) (fun c4 => ?_) (fun c4 => ?_)
        · have h := of_neg c4 h
          refine kj_ald0 (pc := 131) C dX8_happen_131 ?_
          refine gf_X8_17 (pc := 132) C dX8_happen_132 ?_
          refine kj_iconst (pc := 135) C (v := 1) dX8_happen_135 ci_1 ?_
          obtain ⟨q5, eq5, h⟩ := of_bind h
          refine kj_callVN0 (pc := 136) C (ct_X7_goOn h18_1 eq5) (Nat.le_of_ble_eq_true rfl) mi_X7_goOn ml_X8_57 (rc_st h18_1) rfl rfl ar1 (Nat.le_of_ble_eq_true rfl) dX8_happen_136 ?_
          exact k_X8_happen_139 C hr hR  _ _ _ h
        · have h := of_pos c4 h
          refine kj_ald0 (pc := 121) C dX8_happen_121 ?_
          refine gf_X8_17 (pc := 122) C dX8_happen_122 ?_
          obtain ⟨q6, eq6, h⟩ := of_bind h
          refine kj_callVN0 (pc := 125) C (ct_X7_takeVoices h18_1 eq6) (Nat.le_of_ble_eq_true rfl) mi_X7_takeVoices ml_X8_54 (rc_st h18_1) rfl rfl ar0 (Nat.le_of_ble_eq_true rfl) dX8_happen_125 ?_
          refine kj_goto (pc := 128) C dX8_happen_128 (tgt := 139) (by decide) ?_
          exact k_X8_happen_139 C hr hR  _ _ _ h
      · have h := of_neg c3 h
        refine kj_ald0 (pc := 69) C dX8_happen_69 ?_
        refine gf_X8_17 (pc := 70) C dX8_happen_70 ?_
        refine kj_ild1 (pc := 73) C dX8_happen_73 ?_
        refine kj_bipush (pc := 74) C (v := 12) dX8_happen_74 cb_12 ?_
        refine kj_isub (pc := 76) C dX8_happen_76 ?_
        obtain ⟨q7, eq7, h⟩ := of_bind h
        refine kj_callVN1 (pc := 77) C (ct_X7_isThere h18_1 eq7) (Nat.le_of_ble_eq_true rfl) mi_X7_isThere ml_X8_40 (rc_st h18_1) rfl rfl ar1 (Nat.le_of_ble_eq_true rfl) dX8_happen_77 ?_
        refine kj_if_eq (pc := 80) C dX8_happen_80 (tgt := 139) (by decide) (fun c8 => ?_) (fun c8 => ?_)
        · have h := of_pos c8 h
          exact k_X8_happen_139 C hr hR  _ _ _ h
        · have h := of_neg c8 h
          refine kj_ald0 (pc := 83) C dX8_happen_83 ?_
          refine gf_X8_17 (pc := 84) C dX8_happen_84 ?_
          refine kj_ild1 (pc := 87) C dX8_happen_87 ?_
          refine kj_bipush (pc := 88) C (v := 11) dX8_happen_88 cb_11 ?_
          refine kj_isub (pc := 90) C dX8_happen_90 ?_
          obtain ⟨q9, eq9, h⟩ := of_bind h
          refine kj_callVN1 (pc := 91) C (ct_X7_isThere h18_1 eq9) (Nat.le_of_ble_eq_true rfl) mi_X7_isThere ml_X8_40 (rc_st h18_1) rfl rfl ar1 (Nat.le_of_ble_eq_true rfl) dX8_happen_91 ?_
          refine kj_if_eq (pc := 94) C dX8_happen_94 (tgt := 139) (by decide) (fun c10 => ?_) (fun c10 => ?_)
          · have h := of_pos c10 h
            exact k_X8_happen_139 C hr hR  _ _ _ h
          · have h := of_neg c10 h
            refine kj_ald0 (pc := 97) C dX8_happen_97 ?_
            refine gf_X8_17 (pc := 98) C dX8_happen_98 ?_
            refine kj_ild1 (pc := 101) C dX8_happen_101 ?_
            refine kj_bipush (pc := 102) C (v := 12) dX8_happen_102 cb_12 ?_
            refine kj_isub (pc := 104) C dX8_happen_104 ?_
            refine kj_ild1 (pc := 105) C dX8_happen_105 ?_
            refine kj_bipush (pc := 106) C (v := 11) dX8_happen_106 cb_11 ?_
            refine kj_isub (pc := 108) C dX8_happen_108 ?_
            obtain ⟨q11, eq11, h⟩ := of_bind h
            refine kj_callVN0 (pc := 109) C (ct_X7_swapSeats h18_1 eq11) (Nat.le_of_ble_eq_true rfl) mi_X7_swapSeats ml_X8_51 (rc_st h18_1) rfl rfl ar2 (Nat.le_of_ble_eq_true rfl) dX8_happen_109 ?_
            refine kj_goto (pc := 112) C dX8_happen_112 (tgt := 139) (by decide) ?_
            exact k_X8_happen_139 C hr hR  _ _ _ h
    · have h := of_neg c2 h
      refine kj_ald0 (pc := 35) C dX8_happen_35 ?_
      refine gf_X8_17 (pc := 36) C dX8_happen_36 ?_
      refine kj_ild1 (pc := 39) C dX8_happen_39 ?_
      refine kj_bipush (pc := 40) C (v := 6) dX8_happen_40 cb_6 ?_
      refine kj_isub (pc := 42) C dX8_happen_42 ?_
      obtain ⟨q12, eq12, h⟩ := of_bind h
      refine kj_callVN1 (pc := 43) C (ct_X7_isThere h18_1 eq12) (Nat.le_of_ble_eq_true rfl) mi_X7_isThere ml_X8_40 (rc_st h18_1) rfl rfl ar1 (Nat.le_of_ble_eq_true rfl) dX8_happen_43 ?_
      refine kj_if_eq (pc := 46) C dX8_happen_46 (tgt := 139) (by decide) (fun c13 => ?_) (fun c13 => ?_)
      · have h := of_pos c13 h
        exact k_X8_happen_139 C hr hR  _ _ _ h
      · have h := of_neg c13 h
        refine kj_ald0 (pc := 49) C dX8_happen_49 ?_
        refine gf_X8_17 (pc := 50) C dX8_happen_50 ?_
        refine kj_ild1 (pc := 53) C dX8_happen_53 ?_
        refine kj_bipush (pc := 54) C (v := 6) dX8_happen_54 cb_6 ?_
        refine kj_isub (pc := 56) C dX8_happen_56 ?_
        obtain ⟨q14, eq14, h⟩ := of_bind h
        refine kj_callVN0 (pc := 57) C (ct_X7_turnHeldOn h18_1 eq14) (Nat.le_of_ble_eq_true rfl) mi_X7_turnHeldOn ml_X8_48 (rc_st h18_1) rfl rfl ar1 (Nat.le_of_ble_eq_true rfl) dX8_happen_57 ?_
        refine kj_goto (pc := 60) C dX8_happen_60 (tgt := 139) (by decide) ?_
        exact k_X8_happen_139 C hr hR  _ _ _ h
  · have h := of_neg c1 h
    refine kj_ald0 (pc := 6) C dX8_happen_6 ?_
    refine gf_X8_17 (pc := 7) C dX8_happen_7 ?_
    refine kj_ild1 (pc := 10) C dX8_happen_10 ?_
    obtain ⟨q15, eq15, h⟩ := of_bind h
    refine kj_callVN1 (pc := 11) C (ct_X7_isThere h18_1 eq15) (Nat.le_of_ble_eq_true rfl) mi_X7_isThere ml_X8_40 (rc_st h18_1) rfl rfl ar1 (Nat.le_of_ble_eq_true rfl) dX8_happen_11 ?_
    refine kj_if_eq (pc := 14) C dX8_happen_14 (tgt := 139) (by decide) (fun c16 => ?_) (fun c16 => ?_)
    · have h := of_pos c16 h
      exact k_X8_happen_139 C hr hR  _ _ _ h
    · have h := of_neg c16 h
      refine kj_ald0 (pc := 17) C dX8_happen_17 ?_
      refine gf_X8_17 (pc := 18) C dX8_happen_18 ?_
      refine kj_ild1 (pc := 21) C dX8_happen_21 ?_
      refine kj_iconst (pc := 22) C (v := 1) dX8_happen_22 ci_1 ?_
      obtain ⟨q17, eq17, h⟩ := of_bind h
      refine kj_callVN0 (pc := 23) C (ct_X7_give h18_1 eq17) (Nat.le_of_ble_eq_true rfl) mi_X7_give ml_X8_44 (rc_st h18_1) rfl rfl ar2 (Nat.le_of_ble_eq_true rfl) dX8_happen_23 ?_
      refine kj_goto (pc := 26) C dX8_happen_26 (tgt := 139) (by decide) ?_
      exact k_X8_happen_139 C hr hR  _ _ _ h
def f_X8_goThrough_15 (n : Nat) (v1 : Int32) (v2 : Int32) (v3 : Int32) (M : Mem) : Option (Int32 × Mem) := match n with
  | 0 => none
  | n + 1 => if v1 ≤ v3 then some (v2, M) else lt_ (sl M 26 (((M.2 26) * (6364136223846793005 : Int64)) + (1442695040888963407 : Int64))) (fun M2 => lt_ (((M2.2 26).toUInt64 >>> ((33 : Int32).toInt64.toUInt64 &&& Int64.toUInt64 63)).toInt64) (fun x3 => (f_X8_happen ((x3 - x3 / 28 * 28).toInt32) M2).bind (fun q4 => (f_X7_richness 1 q4).bind (fun q5 => lt_ (v2 + q5) (fun x6 => lt_ (v3 + 1) (fun x7 => f_X8_goThrough_15 n v1 x6 x7 q4))))))
set_option maxHeartbeats 4000000 in
set_option maxRecDepth 100000 in
theorem k_X8_goThrough_15 {g : GT} {X : XT} {t : Int32 × Mem} (C : Cx g X cX8_goThrough RX8 4 5) (hr : (xt X).sig.returnType = some .int) (hR : Rt g X (some (.int t.1)) t.2) (n : Nat) : ∀ (v1 : Int32) (v2 : Int32) (v3 : Int32) (M : Mem), f_X8_goThrough_15 n v1 v2 v3 M = some t → Kj g X 4 15 [some (.ref (ga g 26 0)), some (.int v1), some (.int v2), some (.int v3)] [] M := by
  induction n with
  | zero => intro v1 v2 v3 M h; rw [f_X8_goThrough_15] at h; cases h
  | succ n ih =>
    intro v1 v2 v3 M h
    rw [f_X8_goThrough_15] at h
    refine kj_ild3 (pc := 15) C dX8_goThrough_15 ?_
    refine kj_ild1 (pc := 16) C dX8_goThrough_16 ?_
    refine kj_icmp_ge (pc := 17) C dX8_goThrough_17 (tgt := 68) (by decide) (fun c1 => ?_) (fun c1 => ?_)
    · have h := of_pos c1 h
      refine kj_ild2 (pc := 68) C dX8_goThrough_68 ?_
      cases h
      exact kj_iret (pc := 69) C hr hR dX8_goThrough_69
    · have h := of_neg c1 h
      refine kj_ald0 (pc := 20) C dX8_goThrough_20 ?_
      refine kj_ald0 (pc := 21) C dX8_goThrough_21 ?_
      refine gf_X8_7 (pc := 22) C dX8_goThrough_22 ?_
      refine kj_ldc2 (pc := 25) C cn_X8_26 dX8_goThrough_25 ?_
      refine kj_lmul (pc := 28) C dX8_goThrough_28 ?_
      refine kj_ldc2 (pc := 29) C cn_X8_28 dX8_goThrough_29 ?_
      refine kj_ladd (pc := 32) C dX8_goThrough_32 ?_
      obtain ⟨M2, eM2, h⟩ := of_lt h
      refine pf_X8_7 (pc := 33) C dX8_goThrough_33 ?_
      refine kj_nM eM2 ?_
      refine kj_ald0 (pc := 36) C dX8_goThrough_36 ?_
      refine kj_ald0 (pc := 37) C dX8_goThrough_37 ?_
      refine gf_X8_7 (pc := 38) C dX8_goThrough_38 ?_
      refine kj_bipush (pc := 41) C (v := 33) dX8_goThrough_41 cb_33 ?_
      refine kj_lushr (pc := 43) C dX8_goThrough_43 ?_
      refine kj_ldc2 (pc := 44) C cn_X8_30 dX8_goThrough_44 ?_
      obtain ⟨x3, ex3, h⟩ := of_lt h
      rw [← ex3]
      refine kj_lrem (pc := 47) C dX8_goThrough_47 (by decide) ?_
      refine kj_l2i (pc := 48) C dX8_goThrough_48 ?_
      obtain ⟨q4, eq4, h⟩ := of_bind h
      refine kj_callV0 (pc := 49) C (ct_X8_happen eq4) (Nat.le_of_ble_eq_true rfl) mi_X8_happen ml_X8_32 rc_26 rfl rfl ar1 (Nat.le_of_ble_eq_true rfl) dX8_goThrough_49 ?_
      refine kj_ild2 (pc := 52) C dX8_goThrough_52 ?_
      refine kj_ald0 (pc := 53) C dX8_goThrough_53 ?_
      refine gf_X8_17 (pc := 54) C dX8_goThrough_54 ?_
      obtain ⟨q5, eq5, h⟩ := of_bind h
      refine kj_callVN1 (pc := 57) C (ct_X7_richness h18_1 eq5) (Nat.le_of_ble_eq_true rfl) mi_X7_richness ml_X8_36 (rc_st h18_1) rfl rfl ar0 (Nat.le_of_ble_eq_true rfl) dX8_goThrough_57 ?_
      refine kj_iadd (pc := 60) C dX8_goThrough_60 ?_
      obtain ⟨x6, ex6, h⟩ := of_lt h
      refine kj_ni ex6 ?_
      refine kj_ist2 (pc := 61) C dX8_goThrough_61 (Nat.le_of_ble_eq_true rfl) rfl ?_
      obtain ⟨x7, ex7, h⟩ := of_lt h
      refine kj_iinc3 (pc := 62) C (v := x7) dX8_goThrough_62 (Nat.le_of_ble_eq_true rfl) rfl (by rw [ex7, ci_1]) ?_
      refine kj_goto (pc := 65) C dX8_goThrough_65 (tgt := 15) (by decide) ?_
      exact ih _ _ _ _ h
def f_X8_goThrough (v1 : Int32) (M : Mem) : Option (Int32 × Mem) := (f_X7_copyFrom 1 0 M).bind (fun q1 => f_X8_goThrough_15 100 v1 0 0 q1)
set_option maxHeartbeats 4000000 in
set_option maxRecDepth 100000 in
theorem ct_X8_goThrough {g : GT} {l : Launch} {v1 : Int32} {M : Mem} {t : Int32 × Mem} (h : f_X8_goThrough v1 M = some t) : Ct g l 5 yX8_goThrough cX8_goThrough 4 (some .int) [.ref (ga g 26 0), .int v1] M (some (.int t.1)) t.2 := by
  refine ct_of (k := 2) (by decide) (Nat.le_of_ble_eq_true rfl) rfl (fun X C hl hr hR => ?_)
  subst hl
  have C : Cx g X cX8_goThrough RX8 4 5 := C
  unfold f_X8_goThrough at h
  refine kj_ald0 (pc := 0) C dX8_goThrough_0 ?_
  refine gf_X8_17 (pc := 1) C dX8_goThrough_1 ?_
  refine kj_ald0 (pc := 4) C dX8_goThrough_4 ?_
  refine gf_X8_13 (pc := 5) C dX8_goThrough_5 ?_
  obtain ⟨q1, eq1, h⟩ := of_bind h
  refine kj_callVN0 (pc := 8) C (ct_X7_copyFrom h18_1 h18_0 eq1) (Nat.le_of_ble_eq_true rfl) mi_X7_copyFrom ml_X8_20 (rc_st h18_1) rfl rfl ar1 (Nat.le_of_ble_eq_true rfl) dX8_goThrough_8 ?_
  refine kj_iconst (pc := 11) C (v := 0) dX8_goThrough_11 ci_0 ?_
  refine kj_ist2 (pc := 12) C dX8_goThrough_12 (Nat.le_of_ble_eq_true rfl) rfl ?_
  refine kj_iconst (pc := 13) C (v := 0) dX8_goThrough_13 ci_0 ?_
  refine kj_ist3 (pc := 14) C dX8_goThrough_14 (Nat.le_of_ble_eq_true rfl) rfl ?_
  exact k_X8_goThrough_15 C hr hR 100 _ _ _ _ h
def f_X9_write_37 (s0 : Int32) (M : Mem) : Option (Int32 × Mem) := some (s0, M)
set_option maxHeartbeats 4000000 in
set_option maxRecDepth 100000 in
theorem k_X9_write_37 {g : GT} {X : XT} {t : Int32 × Mem} (C : Cx g X cX9_write RX9 2 1) (hr : (xt X).sig.returnType = some .int) (hR : Rt g X (some (.int t.1)) t.2) : ∀ (s0 : Int32) (M : Mem) (w0 w1 : Option Value), f_X9_write_37 s0 M = some t → Kj g X 2 37 [w0, w1] [.int s0] M := by
  intro s0 M w0 w1 h
  unfold f_X9_write_37 at h
  cases h
  exact kj_iret (pc := 37) C hr hR dX9_write_37
def f_X9_write_11 (M : Mem) : Option (Int32 × Mem) := some (((-2) : Int32), M)
set_option maxHeartbeats 4000000 in
set_option maxRecDepth 100000 in
theorem k_X9_write_11 {g : GT} {X : XT} {t : Int32 × Mem} (C : Cx g X cX9_write RX9 2 1) (hr : (xt X).sig.returnType = some .int) (hR : Rt g X (some (.int t.1)) t.2) : ∀ (M : Mem) (w0 w1 : Option Value), f_X9_write_11 M = some t → Kj g X 2 11 [w0, w1] [] M := by
  intro M w0 w1 h
  unfold f_X9_write_11 at h
  refine kj_bipush (pc := 11) C (v := (-2)) dX9_write_11 cb_m2 ?_
  cases h
  exact kj_iret (pc := 13) C hr hR dX9_write_13
def f_X9_write (v1 : Int32) (M : Mem) : Option (Int32 × Mem) := if v1 < 0 then f_X9_write_11 M else if v1 ≤ 255 then (f_X5_put v1 M).bind (fun q3 => if q3.1 = 0 then f_X9_write_37 (-4) q3.2 else f_X9_write_37 (q3.2.1 18 0 1) q3.2) else f_X9_write_11 M
set_option maxHeartbeats 4000000 in
set_option maxRecDepth 100000 in
theorem ct_X9_write {g : GT} {l : Launch} {v1 : Int32} {M : Mem} {t : Int32 × Mem} (h : f_X9_write v1 M = some t) : Ct g l 1 yX9_write cX9_write 2 (some .int) [.ref (ga g 20 0), .int v1] M (some (.int t.1)) t.2 := by
  refine ct_of (k := 0) (by decide) (Nat.le_of_ble_eq_true rfl) rfl (fun X C hl hr hR => ?_)
  subst hl
  have C : Cx g X cX9_write RX9 2 1 := C
  unfold f_X9_write at h
  refine kj_ild1 (pc := 0) C dX9_write_0 ?_
  refine kj_if_lt (pc := 1) C dX9_write_1 (tgt := 11) (by decide) (fun c1 => ?_) (fun c1 => ?_)
  · have h := of_pos c1 h
    exact k_X9_write_11 C hr hR  _ _ _ h
  · have h := of_neg c1 h
    refine kj_ild1 (pc := 4) C dX9_write_4 ?_
    refine kj_sipush (pc := 5) C (v := 255) dX9_write_5 cs_255 ?_
    refine kj_icmp_le (pc := 8) C dX9_write_8 (tgt := 14) (by decide) (fun c2 => ?_) (fun c2 => ?_)
    · have h := of_pos c2 h
      refine kj_ald0 (pc := 14) C dX9_write_14 ?_
      refine gf_X9_10 (pc := 15) C dX9_write_15 ?_
      refine kj_ild1 (pc := 18) C dX9_write_18 ?_
      obtain ⟨q3, eq3, h⟩ := of_bind h
      refine kj_callVN1 (pc := 19) C (ct_X5_put eq3) (Nat.le_of_ble_eq_true rfl) mi_X5_put ml_X9_81 rc_18 rfl rfl ar1 (Nat.le_of_ble_eq_true rfl) dX9_write_19 ?_
      refine kj_if_eq (pc := 22) C dX9_write_22 (tgt := 35) (by decide) (fun c4 => ?_) (fun c4 => ?_)
      · have h := of_pos c4 h
        refine kj_bipush (pc := 35) C (v := (-4)) dX9_write_35 cb_m4 ?_
        exact k_X9_write_37 C hr hR _ _ _ _ h
      · have h := of_neg c4 h
        refine kj_ald0 (pc := 25) C dX9_write_25 ?_
        refine gf_X9_10 (pc := 26) C dX9_write_26 ?_
        refine gf_X9_85 (pc := 29) C dX9_write_29 ?_
        refine kj_goto (pc := 32) C dX9_write_32 (tgt := 37) (by decide) ?_
        exact k_X9_write_37 C hr hR _ _ _ _ h
    · have h := of_neg c2 h
      exact k_X9_write_11 C hr hR  _ _ _ h
def f_X9_wipe (M : Mem) : Option (Int32 × Mem) := lt_ (M.1 18 0 1) (fun x1 => lt_ (sw M 18 0 1 0) (fun M2 => some (x1, M2)))
set_option maxHeartbeats 4000000 in
set_option maxRecDepth 100000 in
theorem ct_X9_wipe {g : GT} {l : Launch} {M : Mem} {t : Int32 × Mem} (h : f_X9_wipe M = some t) : Ct g l 0 yX9_wipe cX9_wipe 2 (some .int) [.ref (ga g 20 0)] M (some (.int t.1)) t.2 := by
  refine ct_of (k := 1) (by decide) (Nat.le_of_ble_eq_true rfl) rfl (fun X C hl hr hR => ?_)
  subst hl
  have C : Cx g X cX9_wipe RX9 2 0 := C
  unfold f_X9_wipe at h
  refine kj_ald0 (pc := 0) C dX9_wipe_0 ?_
  refine gf_X9_10 (pc := 1) C dX9_wipe_1 ?_
  refine gf_X9_85 (pc := 4) C dX9_wipe_4 ?_
  obtain ⟨x1, ex1, h⟩ := of_lt h
  refine kj_ni ex1 ?_
  refine kj_ist1 (pc := 7) C dX9_wipe_7 (Nat.le_of_ble_eq_true rfl) rfl ?_
  refine kj_ald0 (pc := 8) C dX9_wipe_8 ?_
  refine gf_X9_10 (pc := 9) C dX9_wipe_9 ?_
  refine kj_iconst (pc := 12) C (v := 0) dX9_wipe_12 ci_0 ?_
  obtain ⟨M2, eM2, h⟩ := of_lt h
  refine pf_X9_85 (pc := 13) C dX9_wipe_13 ?_
  refine kj_nM eM2 ?_
  refine kj_ild1 (pc := 16) C dX9_wipe_16 ?_
  cases h
  exact kj_iret (pc := 17) C hr hR dX9_wipe_17
def f_X9_fault (M : Mem) : Option (Int32) := (f_X5_firstFault M).bind (fun q1 => some q1)
set_option maxHeartbeats 4000000 in
set_option maxRecDepth 100000 in
theorem ct_X9_fault {g : GT} {l : Launch} {M : Mem} {t : Int32} (h : f_X9_fault M = some t) : Ct g l 3 yX9_fault cX9_fault 1 (some .int) [.ref (ga g 20 0)] M (some (.int t)) M := by
  refine ct_of (k := 0) (by decide) (Nat.le_of_ble_eq_true rfl) rfl (fun X C hl hr hR => ?_)
  subst hl
  have C : Cx g X cX9_fault RX9 1 3 := C
  unfold f_X9_fault at h
  refine kj_ald0 (pc := 0) C dX9_fault_0 ?_
  refine gf_X9_10 (pc := 1) C dX9_fault_1 ?_
  obtain ⟨q1, eq1, h⟩ := of_bind h
  refine kj_callVN1 (pc := 4) C (ct_X5_firstFault eq1) (Nat.le_of_ble_eq_true rfl) mi_X5_firstFault ml_X9_89 rc_18 rfl rfl ar0 (Nat.le_of_ble_eq_true rfl) dX9_fault_4 ?_
  cases h
  exact kj_iret (pc := 7) C hr hR dX9_fault_7
def f_X9_choir (M : Mem) : Option (Int32 × Mem) := (f_X5_firstFault M).bind (fun q1 => if q1 = (-9) then (f_X5_tellTo 0 M).bind (fun q3 => (f_X0_forgetAll q3).bind (fun q4 => (f_X6_forgetAll q4).bind (fun q5 => some (q5.1 19 0 3, q5)))) else some (((-3) : Int32), M))
set_option maxHeartbeats 4000000 in
set_option maxRecDepth 100000 in
theorem ct_X9_choir {g : GT} {l : Launch} {M : Mem} {t : Int32 × Mem} (h : f_X9_choir M = some t) : Ct g l 4 yX9_choir cX9_choir 1 (some .int) [.ref (ga g 20 0)] M (some (.int t.1)) t.2 := by
  refine ct_of (k := 0) (by decide) (Nat.le_of_ble_eq_true rfl) rfl (fun X C hl hr hR => ?_)
  subst hl
  have C : Cx g X cX9_choir RX9 1 4 := C
  unfold f_X9_choir at h
  refine kj_ald0 (pc := 0) C dX9_choir_0 ?_
  refine gf_X9_10 (pc := 1) C dX9_choir_1 ?_
  obtain ⟨q1, eq1, h⟩ := of_bind h
  refine kj_callVN1 (pc := 4) C (ct_X5_firstFault eq1) (Nat.le_of_ble_eq_true rfl) mi_X5_firstFault ml_X9_89 rc_18 rfl rfl ar0 (Nat.le_of_ble_eq_true rfl) dX9_choir_4 ?_
  refine kj_bipush (pc := 7) C (v := (-9)) dX9_choir_7 cb_m9 ?_
  refine kj_icmp_eq (pc := 9) C dX9_choir_9 (tgt := 15) (by decide) (fun c2 => ?_) (fun c2 => ?_)
  · have h := of_pos c2 h
    refine kj_ald0 (pc := 15) C dX9_choir_15 ?_
    refine gf_X9_10 (pc := 16) C dX9_choir_16 ?_
    refine kj_ald0 (pc := 19) C dX9_choir_19 ?_
    refine gf_X9_19 (pc := 20) C dX9_choir_20 ?_
    refine kj_ald0 (pc := 23) C dX9_choir_23 ?_
    refine gf_X9_28 (pc := 24) C dX9_choir_24 ?_
    obtain ⟨q3, eq3, h⟩ := of_bind h
    refine kj_callVN0 (pc := 27) C (ct_X5_tellTo h18_0 eq3) (Nat.le_of_ble_eq_true rfl) mi_X5_tellTo ml_X9_93 rc_18 rfl rfl ar2 (Nat.le_of_ble_eq_true rfl) dX9_choir_27 ?_
    refine kj_ald0 (pc := 30) C dX9_choir_30 ?_
    refine gf_X9_38 (pc := 31) C dX9_choir_31 ?_
    obtain ⟨q4, eq4, h⟩ := of_bind h
    refine kj_callVN0 (pc := 34) C (ct_X0_forgetAll eq4) (Nat.le_of_ble_eq_true rfl) mi_X0_forgetAll ml_X9_97 rc_21 rfl rfl ar0 (Nat.le_of_ble_eq_true rfl) dX9_choir_34 ?_
    refine kj_ald0 (pc := 37) C dX9_choir_37 ?_
    refine gf_X9_45 (pc := 38) C dX9_choir_38 ?_
    obtain ⟨q5, eq5, h⟩ := of_bind h
    refine kj_callVN0 (pc := 41) C (ct_X6_forgetAll eq5) (Nat.le_of_ble_eq_true rfl) mi_X6_forgetAll ml_X9_100 rc_22 rfl rfl ar0 (Nat.le_of_ble_eq_true rfl) dX9_choir_41 ?_
    refine kj_ald0 (pc := 44) C dX9_choir_44 ?_
    refine gf_X9_19 (pc := 45) C dX9_choir_45 ?_
    refine gf_X9_101 (pc := 48) C dX9_choir_48 ?_
    cases h
    exact kj_iret (pc := 51) C hr hR dX9_choir_51
  · have h := of_neg c2 h
    refine kj_bipush (pc := 12) C (v := (-3)) dX9_choir_12 cb_m3 ?_
    cases h
    exact kj_iret (pc := 14) C hr hR dX9_choir_14
