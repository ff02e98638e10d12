def f_X1_meanGain_126 (v2 : Int32) (v4 : Int32) (M : Mem) : Option (Int32 × Mem) := (f_X1_factorial (M.1 19 0 3) M).bind (fun q1 => (f_X9_sideOfFraction v4 q1 v2 M).bind (fun q2 => some (q2, M)))
set_option maxHeartbeats 4000000 in
set_option maxRecDepth 100000 in
theorem k_X1_meanGain_126 {g : GT} {X : XT} {t : Int32 × Mem} (C : Cx g X cX1_meanGain RX1 7 5) (hr : (xt X).sig.returnType = some .int) (hR : Rt g X (some (.int t.1)) t.2) : ∀ (v2 : Int32) (v4 : Int32) (M : Mem) (w1 w3 w5 w6 : Option Value), f_X1_meanGain_126 v2 v4 M = some t → Kj g X 7 126 [some (.ref (ga g 25 0)), w1, some (.int v2), w3, some (.int v4), w5, w6] [] M := by
  intro v2 v4 M w1 w3 w5 w6 h
  unfold f_X1_meanGain_126 at h
  refine kj_ild4 (pc := 126) C dX1_meanGain_126 ?_
  refine kj_ald0 (pc := 128) C dX1_meanGain_128 ?_
  refine gf_X1_21 (pc := 129) C dX1_meanGain_129 ?_
  refine gf_X1_68 (pc := 132) C dX1_meanGain_132 ?_
  obtain ⟨q1, eq1, h⟩ := of_bind h
  refine kj_callS1 (pc := 135) C (ct_X1_factorial eq1) (Nat.le_of_ble_eq_true rfl) mi_X1_factorial ml_X1_71 rfl as1 (Nat.le_of_ble_eq_true rfl) dX1_meanGain_135 ?_
  refine kj_ild2 (pc := 138) C dX1_meanGain_138 ?_
  obtain ⟨q2, eq2, h⟩ := of_bind h
  refine kj_callSN1 (pc := 139) C (ct_X9_sideOfFraction eq2) (Nat.le_of_ble_eq_true rfl) mi_X9_sideOfFraction ml_X1_74 rfl as3 (Nat.le_of_ble_eq_true rfl) dX1_meanGain_139 ?_
  cases h
  exact kj_iret (pc := 142) C hr hR dX1_meanGain_142
def f_X1_meanGain_120 (k54 : Int32 → Int32 → Int32 → Int32 → Int32 → Mem → Option (Int32 × Mem)) (v1 : Int32) (v2 : Int32) (v3 : Int32) (v4 : Int32) (v5 : Int32) (M : Mem) : Option (Int32 × Mem) := lt_ (v5 + 1) (fun x1 => k54 v1 v2 v3 v4 x1 M)
set_option maxHeartbeats 4000000 in
set_option maxRecDepth 100000 in
theorem k_X1_meanGain_120 {g : GT} {X : XT} {k54 : Int32 → Int32 → Int32 → Int32 → Int32 → Mem → Option (Int32 × Mem)} {t : Int32 × Mem} (C : Cx g X cX1_meanGain RX1 7 5) (hr : (xt X).sig.returnType = some .int) (hR : Rt g X (some (.int t.1)) t.2) (hk54 : ∀ (v1 : Int32) (v2 : Int32) (v3 : Int32) (v4 : Int32) (v5 : Int32) (M : Mem) (w6 : Option Value), k54 v1 v2 v3 v4 v5 M = some t → Kj g X 7 54 [some (.ref (ga g 25 0)), some (.int v1), some (.int v2), some (.int v3), some (.int v4), some (.int v5), w6] [] M) : ∀ (v1 : Int32) (v2 : Int32) (v3 : Int32) (v4 : Int32) (v5 : Int32) (M : Mem) (w6 : Option Value), f_X1_meanGain_120 k54 v1 v2 v3 v4 v5 M = some t → Kj g X 7 120 [some (.ref (ga g 25 0)), some (.int v1), some (.int v2), some (.int v3), some (.int v4), some (.int v5), w6] [] M := by
  intro v1 v2 v3 v4 v5 M w6 h
  unfold f_X1_meanGain_120 at h
  obtain ⟨x1, ex1, h⟩ := of_lt h
  refine kj_iinc5 (pc := 120) C (v := x1) dX1_meanGain_120 (Nat.le_of_ble_eq_true rfl) rfl (by rw [ex1, ci_1]) ?_
  refine kj_goto (pc := 123) C dX1_meanGain_123 (tgt := 54) (by decide) ?_
  exact hk54 _ _ _ _ _ _ _ h
def f_X1_meanGain_54 (n : Nat) (v1 : Int32) (v2 : Int32) (v3 : Int32) (v4 : Int32) (v5 : Int32) (M : Mem) : Option (Int32 × Mem) := match n with
  | 0 => none
  | n + 1 => if v3 < v5 then f_X1_meanGain_126 v2 v4 M else if 64 ≤ v5 then f_X1_meanGain_126 v2 v4 M else if ((v5 >>> (v1 &&& 31)) &&& (1 : Int32)) = 1 then if ¬ (v5 < 0 ∨ 64 ≤ v5.toNatClampNeg) then lt_ (v5 &&& (((1 : Int32) <<< (v1 &&& 31)) ^^^ (-1 : Int32))) (fun x6 => if ¬ (x6 < 0 ∨ 64 ≤ x6.toNatClampNeg) then lt_ ((M.1 25 1 v5.toNatClampNeg) - (M.1 25 1 x6.toNatClampNeg)) (fun x7 => (f_J6_bitCount_0f7a4 v5 M).bind (fun q8 => (f_X1_ordersOf q8 M).bind (fun q9 => lt_ (v4 + (x7 * q9)) (fun x10 => f_X1_meanGain_120 (f_X1_meanGain_54 n) v1 v2 v3 x10 v5 M)))) else none) else none else f_X1_meanGain_120 (f_X1_meanGain_54 n) v1 v2 v3 v4 v5 M
set_option maxHeartbeats 4000000 in
set_option maxRecDepth 100000 in
theorem k_X1_meanGain_54 {g : GT} {X : XT} {t : Int32 × Mem} (C : Cx g X cX1_meanGain RX1 7 5) (hr : (xt X).sig.returnType = some .int) (hR : Rt g X (some (.int t.1)) t.2) (n : Nat) : ∀ (v1 : Int32) (v2 : Int32) (v3 : Int32) (v4 : Int32) (v5 : Int32) (M : Mem) (w6 : Option Value), f_X1_meanGain_54 n v1 v2 v3 v4 v5 M = some t → Kj g X 7 54 [some (.ref (ga g 25 0)), some (.int v1), some (.int v2), some (.int v3), some (.int v4), some (.int v5), w6] [] M := by
  induction n with
  | zero => intro v1 v2 v3 v4 v5 M w6 h; rw [f_X1_meanGain_54] at h; cases h
  | succ n ih =>
    intro v1 v2 v3 v4 v5 M w6 h
    rw [f_X1_meanGain_54] at h
    refine kj_ild5 (pc := 54) C dX1_meanGain_54 ?_
    refine kj_ild3 (pc := 56) C dX1_meanGain_56 ?_
    refine kj_icmp_gt (pc := 57) C dX1_meanGain_57 (tgt := 126) (by decide) (fun c1 => ?_) (fun c1 => ?_)
    · have h := of_pos c1 h
      exact k_X1_meanGain_126 C hr hR _ _ _ _ _ _ _ h
    · have h := of_neg c1 h
      refine kj_ild5 (pc := 60) C dX1_meanGain_60 ?_
      refine kj_ald0 (pc := 62) C dX1_meanGain_62 ?_
      refine gf_X1_9 (pc := 63) C dX1_meanGain_63 ?_
      refine kj_alen2 (pc := 66) C ia_25_1 (v := 64) rfl dX1_meanGain_66 ?_
      refine kj_icmp_ge (pc := 67) C dX1_meanGain_67 (tgt := 126) (by decide) (fun c2 => ?_) (fun c2 => ?_)
      · have h := of_pos c2 h
        exact k_X1_meanGain_126 C hr hR _ _ _ _ _ _ _ h
      · have h := of_neg c2 h
        refine kj_ild5 (pc := 70) C dX1_meanGain_70 ?_
        refine kj_ild1 (pc := 72) C dX1_meanGain_72 ?_
        refine kj_ishr (pc := 73) C dX1_meanGain_73 ?_
        refine kj_iconst (pc := 74) C (v := 1) dX1_meanGain_74 ci_1 ?_
        refine kj_iand (pc := 75) C dX1_meanGain_75 ?_
        refine kj_iconst (pc := 76) C (v := 1) dX1_meanGain_76 ci_1 ?_
        refine kj_icmp_ne (pc := 77) C dX1_meanGain_77 (tgt := 120) (by decide) (fun c3 => ?_) (fun c3 => ?_)
        · have h := of_neg c3 h
          exact k_X1_meanGain_120 C hr hR ih _ _ _ _ _ _ _ h
        · have h := of_pos c3 h
          refine kj_ald0 (pc := 80) C dX1_meanGain_80 ?_
          refine gf_X1_9 (pc := 81) C dX1_meanGain_81 ?_
          refine kj_ild5 (pc := 84) C dX1_meanGain_84 ?_
          obtain ⟨c4, h⟩ := of_gd h
          refine kj_iald2 (pc := 86) C ia_25_1 c4 dX1_meanGain_86 ?_
          refine kj_ald0 (pc := 87) C dX1_meanGain_87 ?_
          refine gf_X1_9 (pc := 88) C dX1_meanGain_88 ?_
          refine kj_ild5 (pc := 91) C dX1_meanGain_91 ?_
          refine kj_iconst (pc := 93) C (v := 1) dX1_meanGain_93 ci_1 ?_
          refine kj_ild1 (pc := 94) C dX1_meanGain_94 ?_
          refine kj_ishl (pc := 95) C dX1_meanGain_95 ?_
          refine kj_iconst (pc := 96) C (v := (-1)) dX1_meanGain_96 ci_m1 ?_
          refine kj_ixor (pc := 97) C dX1_meanGain_97 ?_
          refine kj_iand (pc := 98) C dX1_meanGain_98 ?_
          obtain ⟨x6, ex6, h⟩ := of_lt h
          refine kj_ni ex6 ?_
          obtain ⟨c5, h⟩ := of_gd h
          refine kj_iald2 (pc := 99) C ia_25_1 c5 dX1_meanGain_99 ?_
          refine kj_isub (pc := 100) C dX1_meanGain_100 ?_
          obtain ⟨x7, ex7, h⟩ := of_lt h
          refine kj_ni ex7 ?_
          refine kj_ist6 (pc := 101) C dX1_meanGain_101 (Nat.le_of_ble_eq_true rfl) rfl ?_
          refine kj_ild4 (pc := 103) C dX1_meanGain_103 ?_
          refine kj_ild6 (pc := 105) C dX1_meanGain_105 ?_
          refine kj_ald0 (pc := 107) C dX1_meanGain_107 ?_
          refine kj_ild5 (pc := 108) C dX1_meanGain_108 ?_
          obtain ⟨q8, eq8, h⟩ := of_bind h
          refine kj_callS1 (pc := 110) C (ct_J6_bitCount_0f7a4 eq8) (Nat.le_of_ble_eq_true rfl) mi_J6_bitCount_0f7a4 ml_X1_59 rfl as1 (Nat.le_of_ble_eq_true rfl) dX1_meanGain_110 ?_
          obtain ⟨q9, eq9, h⟩ := of_bind h
          refine kj_callV1 (pc := 113) C (ct_X1_ordersOf eq9) (Nat.le_of_ble_eq_true rfl) mi_X1_ordersOf ml_X1_65 rc_25 rfl rfl ar1 (Nat.le_of_ble_eq_true rfl) dX1_meanGain_113 ?_
          refine kj_imul (pc := 116) C dX1_meanGain_116 ?_
          refine kj_iadd (pc := 117) C dX1_meanGain_117 ?_
          obtain ⟨x10, ex10, h⟩ := of_lt h
          refine kj_ni ex10 ?_
          refine kj_ist4 (pc := 118) C dX1_meanGain_118 (Nat.le_of_ble_eq_true rfl) rfl ?_
          exact k_X1_meanGain_120 C hr hR ih _ _ _ _ _ _ _ h
def f_X1_meanGain_48 (v1 : Int32) (v2 : Int32) (v3 : Int32) (M : Mem) : Option (Int32 × Mem) := f_X1_meanGain_54 100 v1 v2 v3 0 0 M
set_option maxHeartbeats 4000000 in
set_option maxRecDepth 100000 in
theorem k_X1_meanGain_48 {g : GT} {X : XT} {t : Int32 × Mem} (C : Cx g X cX1_meanGain RX1 7 5) (hr : (xt X).sig.returnType = some .int) (hR : Rt g X (some (.int t.1)) t.2) : ∀ (v1 : Int32) (v2 : Int32) (v3 : Int32) (M : Mem) (w4 w5 w6 : Option Value), f_X1_meanGain_48 v1 v2 v3 M = some t → Kj g X 7 48 [some (.ref (ga g 25 0)), some (.int v1), some (.int v2), some (.int v3), w4, w5, w6] [] M := by
  intro v1 v2 v3 M w4 w5 w6 h
  unfold f_X1_meanGain_48 at h
  refine kj_iconst (pc := 48) C (v := 0) dX1_meanGain_48 ci_0 ?_
  refine kj_ist4 (pc := 49) C dX1_meanGain_49 (Nat.le_of_ble_eq_true rfl) rfl ?_
  refine kj_iconst (pc := 51) C (v := 0) dX1_meanGain_51 ci_0 ?_
  refine kj_ist5 (pc := 52) C dX1_meanGain_52 (Nat.le_of_ble_eq_true rfl) rfl ?_
  exact k_X1_meanGain_54 C hr hR 100 _ _ _ _ _ _ _ h
def f_X1_meanGain_11 (n : Nat) (v1 : Int32) (v2 : Int32) (v3 : Int32) (v4 : Int32) (M : Mem) : Option (Int32 × Mem) := match n with
  | 0 => none
  | n + 1 => if v3 < v4 then f_X1_meanGain_48 v1 v2 v3 M else if 64 ≤ v4 then f_X1_meanGain_48 v1 v2 v3 M else (f_X1_richnessOfSome v4 6 M).bind (fun q3 => if ¬ (v4 < 0 ∨ 64 ≤ v4.toNatClampNeg) then lt_ (sw q3.2 25 1 v4.toNatClampNeg q3.1) (fun M5 => lt_ (v4 + 1) (fun x6 => f_X1_meanGain_11 n v1 v2 v3 x6 M5)) else none)
set_option maxHeartbeats 4000000 in
set_option maxRecDepth 100000 in
theorem k_X1_meanGain_11 {g : GT} {X : XT} {t : Int32 × Mem} (C : Cx g X cX1_meanGain RX1 7 5) (hr : (xt X).sig.returnType = some .int) (hR : Rt g X (some (.int t.1)) t.2) (n : Nat) : ∀ (v1 : Int32) (v2 : Int32) (v3 : Int32) (v4 : Int32) (M : Mem) (w5 w6 : Option Value), f_X1_meanGain_11 n v1 v2 v3 v4 M = some t → Kj g X 7 11 [some (.ref (ga g 25 0)), some (.int v1), some (.int v2), some (.int v3), some (.int v4), w5, w6] [] M := by
  induction n with
  | zero => intro v1 v2 v3 v4 M w5 w6 h; rw [f_X1_meanGain_11] at h; cases h
  | succ n ih =>
    intro v1 v2 v3 v4 M w5 w6 h
    rw [f_X1_meanGain_11] at h
    refine kj_ild4 (pc := 11) C dX1_meanGain_11 ?_
    refine kj_ild3 (pc := 13) C dX1_meanGain_13 ?_
    refine kj_icmp_gt (pc := 14) C dX1_meanGain_14 (tgt := 48) (by decide) (fun c1 => ?_) (fun c1 => ?_)
    · have h := of_pos c1 h
      exact k_X1_meanGain_48 C hr hR _ _ _ _ _ _ _ h
    · have h := of_neg c1 h
      refine kj_ild4 (pc := 17) C dX1_meanGain_17 ?_
      refine kj_ald0 (pc := 19) C dX1_meanGain_19 ?_
      refine gf_X1_9 (pc := 20) C dX1_meanGain_20 ?_
      refine kj_alen2 (pc := 23) C ia_25_1 (v := 64) rfl dX1_meanGain_23 ?_
      refine kj_icmp_ge (pc := 24) C dX1_meanGain_24 (tgt := 48) (by decide) (fun c2 => ?_) (fun c2 => ?_)
      · have h := of_pos c2 h
        exact k_X1_meanGain_48 C hr hR _ _ _ _ _ _ _ h
      · have h := of_neg c2 h
        refine kj_ald0 (pc := 27) C dX1_meanGain_27 ?_
        refine gf_X1_9 (pc := 28) C dX1_meanGain_28 ?_
        refine kj_ild4 (pc := 31) C dX1_meanGain_31 ?_
        refine kj_ald0 (pc := 33) C dX1_meanGain_33 ?_
        refine kj_ild4 (pc := 34) C dX1_meanGain_34 ?_
        refine kj_bipush (pc := 36) C (v := 6) dX1_meanGain_36 cb_6 ?_
        obtain ⟨q3, eq3, h⟩ := of_bind h
        refine kj_callV1 (pc := 38) C (ct_X1_richnessOfSome eq3) (Nat.le_of_ble_eq_true rfl) mi_X1_richnessOfSome ml_X1_55 rc_25 rfl rfl ar2 (Nat.le_of_ble_eq_true rfl) dX1_meanGain_38 ?_
        obtain ⟨c4, h⟩ := of_gd h
        obtain ⟨M5, eM5, h⟩ := of_lt h
        refine kj_iast2 (pc := 41) C ia_25_1 c4 dX1_meanGain_41 ?_
        refine kj_nM eM5 ?_
        obtain ⟨x6, ex6, h⟩ := of_lt h
        refine kj_iinc4 (pc := 42) C (v := x6) dX1_meanGain_42 (Nat.le_of_ble_eq_true rfl) rfl (by rw [ex6, ci_1]) ?_
        refine kj_goto (pc := 45) C dX1_meanGain_45 (tgt := 11) (by decide) ?_
        exact ih _ _ _ _ _ _ _ h
def f_X1_meanGain (v1 : Int32) (v2 : Int32) (M : Mem) : Option (Int32 × Mem) := (f_X4_everybody M).bind (fun q1 => f_X1_meanGain_11 100 v1 v2 q1 0 M)
set_option maxHeartbeats 4000000 in
set_option maxRecDepth 100000 in
theorem ct_X1_meanGain {g : GT} {l : Launch} {v1 : Int32} {v2 : Int32} {M : Mem} {t : Int32 × Mem} (h : f_X1_meanGain v1 v2 M = some t) : Ct g l 5 yX1_meanGain cX1_meanGain 7 (some .int) [.ref (ga g 25 0), .int v1, .int v2] M (some (.int t.1)) t.2 := by
  refine ct_of (k := 4) (by decide) (Nat.le_of_ble_eq_true rfl) rfl (fun X C hl hr hR => ?_)
  subst hl
  have C : Cx g X cX1_meanGain RX1 7 5 := C
  unfold f_X1_meanGain at h
  refine kj_ald0 (pc := 0) C dX1_meanGain_0 ?_
  refine gf_X1_21 (pc := 1) C dX1_meanGain_1 ?_
  obtain ⟨q1, eq1, h⟩ := of_bind h
  refine kj_callVN1 (pc := 4) C (ct_X4_everybody eq1) (Nat.le_of_ble_eq_true rfl) mi_X4_everybody ml_X1_50 rc_19 rfl rfl ar0 (Nat.le_of_ble_eq_true rfl) dX1_meanGain_4 ?_
  refine kj_ist3 (pc := 7) C dX1_meanGain_7 (Nat.le_of_ble_eq_true rfl) rfl ?_
  refine kj_iconst (pc := 8) C (v := 0) dX1_meanGain_8 ci_0 ?_
  refine kj_ist4 (pc := 9) C dX1_meanGain_9 (Nat.le_of_ble_eq_true rfl) rfl ?_
  exact k_X1_meanGain_11 C hr hR 100 _ _ _ _ _ _ _ h
def f_X7_give (o : Nat) (v1 : Int32) (v2 : Int32) (M : Mem) : Option (Mem) := if ¬ (v1 < 0 ∨ 6 ≤ v1.toNatClampNeg) then lt_ (if 99 < ((M.1 o 2 v1.toNatClampNeg) + v2) then 99 else ((M.1 o 2 v1.toNatClampNeg) + v2)) (fun x2 => if ¬ (v1 < 0 ∨ 6 ≤ v1.toNatClampNeg) then lt_ (sw M o 2 v1.toNatClampNeg x2) (fun M4 => some M4) else none) else none
set_option maxHeartbeats 4000000 in
set_option maxRecDepth 100000 in
theorem ct_X7_give {g : GT} {l : Launch} {o : Nat} {v1 : Int32} {v2 : Int32} {M : Mem} {t : Mem} (ho : o < 18) (h : f_X7_give o v1 v2 M = some t) : Ct g l 1 yX7_give cX7_give 3 (none) [.ref (ga g o 0), .int v1, .int v2] M (none) t := by
  refine ct_of (k := 0) (by decide) (Nat.le_of_ble_eq_true rfl) rfl (fun X C hl hr hR => ?_)
  subst hl
  have C : Cx g X cX7_give RX7 3 1 := C
  unfold f_X7_give at h
  refine kj_ald0 (pc := 0) C dX7_give_0 ?_
  refine gf_X7_15 (pc := 1) C ho dX7_give_1 ?_
  refine kj_ild1 (pc := 4) C dX7_give_4 ?_
  refine kj_ald0 (pc := 5) C dX7_give_5 ?_
  refine gf_X7_15 (pc := 6) C ho dX7_give_6 ?_
  refine kj_ild1 (pc := 9) C dX7_give_9 ?_
  obtain ⟨c1, h⟩ := of_gd h
  refine kj_iald2 (pc := 10) C (ia_st ho ⟨by decide, by decide⟩) c1 dX7_give_10 ?_
  refine kj_ild2 (pc := 11) C dX7_give_11 ?_
  refine kj_iadd (pc := 12) C dX7_give_12 ?_
  refine kj_bipush (pc := 13) C (v := 99) dX7_give_13 cb_99 ?_
  obtain ⟨x2, ex2, h⟩ := of_lt h
  refine kj_mmin2 (pc := 15) C ml_X7_67 (Nat.le_of_ble_eq_true rfl) dX7_give_15 ?_
  refine kj_ni ex2 ?_
  obtain ⟨c3, h⟩ := of_gd h
  obtain ⟨M4, eM4, h⟩ := of_lt h
  refine kj_iast2 (pc := 18) C (ia_st ho ⟨by decide, by decide⟩) c3 dX7_give_18 ?_
  refine kj_nM eM4 ?_
  cases h
  exact kj_vret (pc := 19) C hr hR dX7_give_19
def f_X7_howManySing_31 (o : Nat) (M : Mem) (k4 : Int32 → Int32 → Int32 → Option (Int32)) (v1 : Int32) (v2 : Int32) (v3 : Int32) : Option (Int32) := lt_ (v3 + 1) (fun x1 => k4 v1 v2 x1)
set_option maxHeartbeats 4000000 in
set_option maxRecDepth 100000 in
theorem k_X7_howManySing_31 {g : GT} {X : XT} {o : Nat} {M : Mem} {k4 : Int32 → Int32 → Int32 → Option (Int32)} {t : Int32} (C : Cx g X cX7_howManySing RX7 4 1) (hr : (xt X).sig.returnType = some .int) (hR : Rt g X (some (.int t)) M) (ho : o < 18) (hk4 : ∀ (v1 : Int32) (v2 : Int32) (v3 : Int32), k4 v1 v2 v3 = some t → Kj g X 4 4 [some (.ref (ga g o 0)), some (.int v1), some (.int v2), some (.int v3)] [] M) : ∀ (v1 : Int32) (v2 : Int32) (v3 : Int32), f_X7_howManySing_31 o M k4 v1 v2 v3 = some t → Kj g X 4 31 [some (.ref (ga g o 0)), some (.int v1), some (.int v2), some (.int v3)] [] M := by
  intro v1 v2 v3 h
  unfold f_X7_howManySing_31 at h
  obtain ⟨x1, ex1, h⟩ := of_lt h
  refine kj_iinc3 (pc := 31) C (v := x1) dX7_howManySing_31 (Nat.le_of_ble_eq_true rfl) rfl (by rw [ex1, ci_1]) ?_
  refine kj_goto (pc := 34) C dX7_howManySing_34 (tgt := 4) (by decide) ?_
  exact hk4 _ _ _ h
def f_X7_howManySing_4 (o : Nat) (M : Mem) (n : Nat) (v1 : Int32) (v2 : Int32) (v3 : Int32) : Option (Int32) := match n with
  | 0 => none
  | n + 1 => if 6 ≤ v3 then some v2 else (f_X7_isThere o v3 M).bind (fun q2 => if q2 = 0 then f_X7_howManySing_31 o M (f_X7_howManySing_4 o M n) v1 v2 v3 else if ¬ (v3 < 0 ∨ 6 ≤ v3.toNatClampNeg) then if (M.1 o 3 v3.toNatClampNeg) = v1 then lt_ (v2 + 1) (fun x6 => f_X7_howManySing_31 o M (f_X7_howManySing_4 o M n) v1 x6 v3) else f_X7_howManySing_31 o M (f_X7_howManySing_4 o M n) v1 v2 v3 else none)
set_option maxHeartbeats 4000000 in
set_option maxRecDepth 100000 in
theorem k_X7_howManySing_4 {g : GT} {X : XT} {o : Nat} {M : Mem} {t : Int32} (C : Cx g X cX7_howManySing RX7 4 1) (hr : (xt X).sig.returnType = some .int) (hR : Rt g X (some (.int t)) M) (ho : o < 18) (n : Nat) : ∀ (v1 : Int32) (v2 : Int32) (v3 : Int32), f_X7_howManySing_4 o M n v1 v2 v3 = some t → Kj g X 4 4 [some (.ref (ga g o 0)), some (.int v1), some (.int v2), some (.int v3)] [] M := by
  induction n with
  | zero => intro v1 v2 v3 h; rw [f_X7_howManySing_4] at h; cases h
  | succ n ih =>
    intro v1 v2 v3 h
    rw [f_X7_howManySing_4] at h
    refine kj_ild3 (pc := 4) C dX7_howManySing_4 ?_
    refine kj_bipush (pc := 5) C (v := 6) dX7_howManySing_5 cb_6 ?_
    refine kj_icmp_ge (pc := 7) C dX7_howManySing_7 (tgt := 37) (by decide) (fun c1 => ?_) (fun c1 => ?_)
    · have h := of_pos c1 h
      refine kj_ild2 (pc := 37) C dX7_howManySing_37 ?_
      cases h
      exact kj_iret (pc := 38) C hr hR dX7_howManySing_38
    · have h := of_neg c1 h
      refine kj_ald0 (pc := 10) C dX7_howManySing_10 ?_
      refine kj_ild3 (pc := 11) C dX7_howManySing_11 ?_
      obtain ⟨q2, eq2, h⟩ := of_bind h
      refine kj_callV1 (pc := 12) C (ct_X7_isThere ho eq2) (Nat.le_of_ble_eq_true rfl) mi_X7_isThere ml_X7_76 (rc_st ho) rfl rfl ar1 (Nat.le_of_ble_eq_true rfl) dX7_howManySing_12 ?_
      refine kj_if_eq (pc := 15) C dX7_howManySing_15 (tgt := 31) (by decide) (fun c3 => ?_) (fun c3 => ?_)
      · have h := of_pos c3 h
        exact k_X7_howManySing_31 C hr hR ho ih _ _ _ h
      · have h := of_neg c3 h
        refine kj_ald0 (pc := 18) C dX7_howManySing_18 ?_
        refine gf_X7_18 (pc := 19) C ho dX7_howManySing_19 ?_
        refine kj_ild3 (pc := 22) C dX7_howManySing_22 ?_
        obtain ⟨c4, h⟩ := of_gd h
        refine kj_iald2 (pc := 23) C (ia_st ho ⟨by decide, by decide⟩) c4 dX7_howManySing_23 ?_
        refine kj_ild1 (pc := 24) C dX7_howManySing_24 ?_
        refine kj_icmp_ne (pc := 25) C dX7_howManySing_25 (tgt := 31) (by decide) (fun c5 => ?_) (fun c5 => ?_)
        · have h := of_neg c5 h
          exact k_X7_howManySing_31 C hr hR ho ih _ _ _ h
        · have h := of_pos c5 h
          obtain ⟨x6, ex6, h⟩ := of_lt h
          refine kj_iinc2 (pc := 28) C (v := x6) dX7_howManySing_28 (Nat.le_of_ble_eq_true rfl) rfl (by rw [ex6, ci_1]) ?_
          exact k_X7_howManySing_31 C hr hR ho ih _ _ _ h
def f_X7_howManySing (o : Nat) (v1 : Int32) (M : Mem) : Option (Int32) := f_X7_howManySing_4 o M 100 v1 0 0
set_option maxHeartbeats 4000000 in
set_option maxRecDepth 100000 in
theorem ct_X7_howManySing {g : GT} {l : Launch} {o : Nat} {v1 : Int32} {M : Mem} {t : Int32} (ho : o < 18) (h : f_X7_howManySing o v1 M = some t) : Ct g l 1 yX7_howManySing cX7_howManySing 4 (some .int) [.ref (ga g o 0), .int v1] M (some (.int t)) M := by
  refine ct_of (k := 2) (by decide) (Nat.le_of_ble_eq_true rfl) rfl (fun X C hl hr hR => ?_)
  subst hl
  have C : Cx g X cX7_howManySing RX7 4 1 := C
  unfold f_X7_howManySing at h
  refine kj_iconst (pc := 0) C (v := 0) dX7_howManySing_0 ci_0 ?_
  refine kj_ist2 (pc := 1) C dX7_howManySing_1 (Nat.le_of_ble_eq_true rfl) rfl ?_
  refine kj_iconst (pc := 2) C (v := 0) dX7_howManySing_2 ci_0 ?_
  refine kj_ist3 (pc := 3) C dX7_howManySing_3 (Nat.le_of_ble_eq_true rfl) rfl ?_
  exact k_X7_howManySing_4 C hr hR ho 100 _ _ _ h
def f_X1_giveAndCount (v1 : Int32) (v2 : Int32) (v3 : Int32) (v4 : Int32) (M : Mem) : Option (Mem) := (f_X7_copyFrom 1 0 M).bind (fun q1 => (f_X7_give 1 v3 4 q1).bind (fun q2 => (f_X7_give 1 v4 4 q2).bind (fun q3 => (f_X7_goOn 1 6 q3).bind (fun q4 => if ¬ (v1 < 0 ∨ 6 ≤ v1.toNatClampNeg) then (f_X7_howManySing 1 (q4.1 19 1 v1.toNatClampNeg) q4).bind (fun q6 => lt_ ((v3 * (6 : Int32)) + v4) (fun x8 => if ¬ (x8 < 0 ∨ 36 ≤ x8.toNatClampNeg) then lt_ (sw q4 25 2 x8.toNatClampNeg q6) (fun M9 => if ¬ (v2 < 0 ∨ 6 ≤ v2.toNatClampNeg) then (f_X7_howManySing 1 (M9.1 19 1 v2.toNatClampNeg) M9).bind (fun q11 => lt_ ((v3 * (6 : Int32)) + v4) (fun x13 => if ¬ (x13 < 0 ∨ 36 ≤ x13.toNatClampNeg) then lt_ (sw M9 25 3 x13.toNatClampNeg q11) (fun M14 => some M14) else none)) else none) else none)) else none))))
set_option maxHeartbeats 4000000 in
set_option maxRecDepth 100000 in
theorem ct_X1_giveAndCount {g : GT} {l : Launch} {v1 : Int32} {v2 : Int32} {v3 : Int32} {v4 : Int32} {M : Mem} {t : Mem} (h : f_X1_giveAndCount v1 v2 v3 v4 M = some t) : Ct g l 4 yX1_giveAndCount cX1_giveAndCount 5 (none) [.ref (ga g 25 0), .int v1, .int v2, .int v3, .int v4] M (none) t := by
  refine ct_of (k := 0) (by decide) (Nat.le_of_ble_eq_true rfl) rfl (fun X C hl hr hR => ?_)
  subst hl
  have C : Cx g X cX1_giveAndCount RX1 5 4 := C
  unfold f_X1_giveAndCount at h
  refine kj_ald0 (pc := 0) C dX1_giveAndCount_0 ?_
  refine gf_X1_29 (pc := 1) C dX1_giveAndCount_1 ?_
  refine kj_ald0 (pc := 4) C dX1_giveAndCount_4 ?_
  refine gf_X1_25 (pc := 5) C dX1_giveAndCount_5 ?_
  obtain ⟨q1, eq1, h⟩ := of_bind h
  refine kj_callVN0 (pc := 8) C (ct_X7_copyFrom h18_1 h18_0 eq1) (Nat.le_of_ble_eq_true rfl) mi_X7_copyFrom ml_X1_32 (rc_st h18_1) rfl rfl ar1 (Nat.le_of_ble_eq_true rfl) dX1_giveAndCount_8 ?_
  refine kj_ald0 (pc := 11) C dX1_giveAndCount_11 ?_
  refine gf_X1_29 (pc := 12) C dX1_giveAndCount_12 ?_
  refine kj_ild3 (pc := 15) C dX1_giveAndCount_15 ?_
  refine kj_iconst (pc := 16) C (v := 4) dX1_giveAndCount_16 ci_4 ?_
  obtain ⟨q2, eq2, h⟩ := of_bind h
  refine kj_callVN0 (pc := 17) C (ct_X7_give h18_1 eq2) (Nat.le_of_ble_eq_true rfl) mi_X7_give ml_X1_89 (rc_st h18_1) rfl rfl ar2 (Nat.le_of_ble_eq_true rfl) dX1_giveAndCount_17 ?_
  refine kj_ald0 (pc := 20) C dX1_giveAndCount_20 ?_
  refine gf_X1_29 (pc := 21) C dX1_giveAndCount_21 ?_
  refine kj_ild4 (pc := 24) C dX1_giveAndCount_24 ?_
  refine kj_iconst (pc := 26) C (v := 4) dX1_giveAndCount_26 ci_4 ?_
  obtain ⟨q3, eq3, h⟩ := of_bind h
  refine kj_callVN0 (pc := 27) C (ct_X7_give h18_1 eq3) (Nat.le_of_ble_eq_true rfl) mi_X7_give ml_X1_89 (rc_st h18_1) rfl rfl ar2 (Nat.le_of_ble_eq_true rfl) dX1_giveAndCount_27 ?_
  refine kj_ald0 (pc := 30) C dX1_giveAndCount_30 ?_
  refine gf_X1_29 (pc := 31) C dX1_giveAndCount_31 ?_
  refine kj_bipush (pc := 34) C (v := 6) dX1_giveAndCount_34 cb_6 ?_
  obtain ⟨q4, eq4, h⟩ := of_bind h
  refine kj_callVN0 (pc := 36) C (ct_X7_goOn h18_1 eq4) (Nat.le_of_ble_eq_true rfl) mi_X7_goOn ml_X1_42 (rc_st h18_1) rfl rfl ar1 (Nat.le_of_ble_eq_true rfl) dX1_giveAndCount_36 ?_
  refine kj_ald0 (pc := 39) C dX1_giveAndCount_39 ?_
  refine gf_X1_15 (pc := 40) C dX1_giveAndCount_40 ?_
  refine kj_ild3 (pc := 43) C dX1_giveAndCount_43 ?_
  refine kj_bipush (pc := 44) C (v := 6) dX1_giveAndCount_44 cb_6 ?_
  refine kj_imul (pc := 46) C dX1_giveAndCount_46 ?_
  refine kj_ild4 (pc := 47) C dX1_giveAndCount_47 ?_
  refine kj_iadd (pc := 49) C dX1_giveAndCount_49 ?_
  refine kj_ald0 (pc := 50) C dX1_giveAndCount_50 ?_
  refine gf_X1_29 (pc := 51) C dX1_giveAndCount_51 ?_
  refine kj_ald0 (pc := 54) C dX1_giveAndCount_54 ?_
  refine gf_X1_21 (pc := 55) C dX1_giveAndCount_55 ?_
  refine gf_X1_93 (pc := 58) C dX1_giveAndCount_58 ?_
  refine kj_ild1 (pc := 61) C dX1_giveAndCount_61 ?_
  obtain ⟨c5, h⟩ := of_gd h
  refine kj_iald2 (pc := 62) C ia_19_1 c5 dX1_giveAndCount_62 ?_
  obtain ⟨q6, eq6, h⟩ := of_bind h
  refine kj_callVN1 (pc := 63) C (ct_X7_howManySing h18_1 eq6) (Nat.le_of_ble_eq_true rfl) mi_X7_howManySing ml_X1_96 (rc_st h18_1) rfl rfl ar1 (Nat.le_of_ble_eq_true rfl) dX1_giveAndCount_63 ?_
  obtain ⟨x8, ex8, h⟩ := of_lt h
  refine kj_ni2 ex8 ?_
  obtain ⟨c7, h⟩ := of_gd h
  obtain ⟨M9, eM9, h⟩ := of_lt h
  refine kj_iast2 (pc := 66) C ia_25_2 c7 dX1_giveAndCount_66 ?_
  refine kj_nM eM9 ?_
  refine kj_ald0 (pc := 67) C dX1_giveAndCount_67 ?_
  refine gf_X1_18 (pc := 68) C dX1_giveAndCount_68 ?_
  refine kj_ild3 (pc := 71) C dX1_giveAndCount_71 ?_
  refine kj_bipush (pc := 72) C (v := 6) dX1_giveAndCount_72 cb_6 ?_
  refine kj_imul (pc := 74) C dX1_giveAndCount_74 ?_
  refine kj_ild4 (pc := 75) C dX1_giveAndCount_75 ?_
  refine kj_iadd (pc := 77) C dX1_giveAndCount_77 ?_
  refine kj_ald0 (pc := 78) C dX1_giveAndCount_78 ?_
  refine gf_X1_29 (pc := 79) C dX1_giveAndCount_79 ?_
  refine kj_ald0 (pc := 82) C dX1_giveAndCount_82 ?_
  refine gf_X1_21 (pc := 83) C dX1_giveAndCount_83 ?_
  refine gf_X1_93 (pc := 86) C dX1_giveAndCount_86 ?_
  refine kj_ild2 (pc := 89) C dX1_giveAndCount_89 ?_
  obtain ⟨c10, h⟩ := of_gd h
  refine kj_iald2 (pc := 90) C ia_19_1 c10 dX1_giveAndCount_90 ?_
  obtain ⟨q11, eq11, h⟩ := of_bind h
  refine kj_callVN1 (pc := 91) C (ct_X7_howManySing h18_1 eq11) (Nat.le_of_ble_eq_true rfl) mi_X7_howManySing ml_X1_96 (rc_st h18_1) rfl rfl ar1 (Nat.le_of_ble_eq_true rfl) dX1_giveAndCount_91 ?_
  obtain ⟨x13, ex13, h⟩ := of_lt h
  refine kj_ni2 ex13 ?_
  obtain ⟨c12, h⟩ := of_gd h
  obtain ⟨M14, eM14, h⟩ := of_lt h
  refine kj_iast2 (pc := 94) C ia_25_3 c12 dX1_giveAndCount_94 ?_
  refine kj_nM eM14 ?_
  cases h
  exact kj_vret (pc := 95) C hr hR dX1_giveAndCount_95
def f_X1_isAtRest_64 (M : Mem) : Option (Int32) := some (0 : Int32)
set_option maxHeartbeats 4000000 in
set_option maxRecDepth 100000 in
theorem k_X1_isAtRest_64 {g : GT} {X : XT} {M : Mem} {t : Int32} (C : Cx g X cX1_isAtRest RX1 5 0) (hr : (xt X).sig.returnType = some .boolean) (hR : Rt g X (some (.int t)) M) : ∀ (w0 w1 w2 w3 w4 : Option Value), f_X1_isAtRest_64 M = some t → Kj g X 5 64 [w0, w1, w2, w3, w4] [] M := by
  intro w0 w1 w2 w3 w4 h
  unfold f_X1_isAtRest_64 at h
  refine kj_iconst (pc := 64) C (v := 0) dX1_isAtRest_64 ci_0 ?_
  cases h
  exact kj_zret (pc := 65) C hr (by decide) hR dX1_isAtRest_65
def f_X1_isAtRest_10 (M : Mem) (n : Nat) (v1 : Int32) (v2 : Int32) (v3 : Int32) (v4 : Int32) : Option (Int32) := match n with
  | 0 => none
  | n + 1 => if (M.1 19 0 3) ≤ v4 then some (1 : Int32) else lt_ ((v4 * (6 : Int32)) + v2) (fun x3 => if ¬ (x3 < 0 ∨ 36 ≤ x3.toNatClampNeg) then if ¬ (v3 < 0 ∨ 36 ≤ v3.toNatClampNeg) then if (M.1 25 2 v3.toNatClampNeg) < (M.1 25 2 x3.toNatClampNeg) then f_X1_isAtRest_64 M else lt_ ((v1 * (6 : Int32)) + v4) (fun x7 => if ¬ (x7 < 0 ∨ 36 ≤ x7.toNatClampNeg) then if ¬ (v3 < 0 ∨ 36 ≤ v3.toNatClampNeg) then if (M.1 25 3 x7.toNatClampNeg) ≤ (M.1 25 3 v3.toNatClampNeg) then lt_ (v4 + 1) (fun x10 => f_X1_isAtRest_10 M n v1 v2 v3 x10) else f_X1_isAtRest_64 M else none else none) else none else none)
set_option maxHeartbeats 4000000 in
set_option maxRecDepth 100000 in
theorem k_X1_isAtRest_10 {g : GT} {X : XT} {M : Mem} {t : Int32} (C : Cx g X cX1_isAtRest RX1 5 0) (hr : (xt X).sig.returnType = some .boolean) (hR : Rt g X (some (.int t)) M) (n : Nat) : ∀ (v1 : Int32) (v2 : Int32) (v3 : Int32) (v4 : Int32), f_X1_isAtRest_10 M n v1 v2 v3 v4 = some t → Kj g X 5 10 [some (.ref (ga g 25 0)), some (.int v1), some (.int v2), some (.int v3), some (.int v4)] [] M := by
  induction n with
  | zero => intro v1 v2 v3 v4 h; rw [f_X1_isAtRest_10] at h; cases h
  | succ n ih =>
    intro v1 v2 v3 v4 h
    rw [f_X1_isAtRest_10] at h
    refine kj_ild4 (pc := 10) C dX1_isAtRest_10 ?_
    refine kj_ald0 (pc := 12) C dX1_isAtRest_12 ?_
    refine gf_X1_21 (pc := 13) C dX1_isAtRest_13 ?_
    refine gf_X1_68 (pc := 16) C dX1_isAtRest_16 ?_
    refine kj_icmp_ge (pc := 19) C dX1_isAtRest_19 (tgt := 72) (by decide) (fun c1 => ?_) (fun c1 => ?_)
    · have h := of_pos c1 h
      refine kj_iconst (pc := 72) C (v := 1) dX1_isAtRest_72 ci_1 ?_
      cases h
      exact kj_zret (pc := 73) C hr (by decide) hR dX1_isAtRest_73
    · have h := of_neg c1 h
      refine kj_ald0 (pc := 22) C dX1_isAtRest_22 ?_
      refine gf_X1_15 (pc := 23) C dX1_isAtRest_23 ?_
      refine kj_ild4 (pc := 26) C dX1_isAtRest_26 ?_
      refine kj_bipush (pc := 28) C (v := 6) dX1_isAtRest_28 cb_6 ?_
      refine kj_imul (pc := 30) C dX1_isAtRest_30 ?_
      refine kj_ild2 (pc := 31) C dX1_isAtRest_31 ?_
      refine kj_iadd (pc := 32) C dX1_isAtRest_32 ?_
      obtain ⟨x3, ex3, h⟩ := of_lt h
      refine kj_ni ex3 ?_
      obtain ⟨c2, h⟩ := of_gd h
      refine kj_iald2 (pc := 33) C ia_25_2 c2 dX1_isAtRest_33 ?_
      refine kj_ald0 (pc := 34) C dX1_isAtRest_34 ?_
      refine gf_X1_15 (pc := 35) C dX1_isAtRest_35 ?_
      refine kj_ild3 (pc := 38) C dX1_isAtRest_38 ?_
      obtain ⟨c4, h⟩ := of_gd h
      refine kj_iald2 (pc := 39) C ia_25_2 c4 dX1_isAtRest_39 ?_
      refine kj_icmp_gt (pc := 40) C dX1_isAtRest_40 (tgt := 64) (by decide) (fun c5 => ?_) (fun c5 => ?_)
      · have h := of_pos c5 h
        exact k_X1_isAtRest_64 C hr hR  _ _ _ _ _ h
      · have h := of_neg c5 h
        refine kj_ald0 (pc := 43) C dX1_isAtRest_43 ?_
        refine gf_X1_18 (pc := 44) C dX1_isAtRest_44 ?_
        refine kj_ild1 (pc := 47) C dX1_isAtRest_47 ?_
        refine kj_bipush (pc := 48) C (v := 6) dX1_isAtRest_48 cb_6 ?_
        refine kj_imul (pc := 50) C dX1_isAtRest_50 ?_
        refine kj_ild4 (pc := 51) C dX1_isAtRest_51 ?_
        refine kj_iadd (pc := 53) C dX1_isAtRest_53 ?_
        obtain ⟨x7, ex7, h⟩ := of_lt h
        refine kj_ni ex7 ?_
        obtain ⟨c6, h⟩ := of_gd h
        refine kj_iald2 (pc := 54) C ia_25_3 c6 dX1_isAtRest_54 ?_
        refine kj_ald0 (pc := 55) C dX1_isAtRest_55 ?_
        refine gf_X1_18 (pc := 56) C dX1_isAtRest_56 ?_
        refine kj_ild3 (pc := 59) C dX1_isAtRest_59 ?_
        obtain ⟨c8, h⟩ := of_gd h
        refine kj_iald2 (pc := 60) C ia_25_3 c8 dX1_isAtRest_60 ?_
        refine kj_icmp_le (pc := 61) C dX1_isAtRest_61 (tgt := 66) (by decide) (fun c9 => ?_) (fun c9 => ?_)
        · have h := of_pos c9 h
          obtain ⟨x10, ex10, h⟩ := of_lt h
          refine kj_iinc4 (pc := 66) C (v := x10) dX1_isAtRest_66 (Nat.le_of_ble_eq_true rfl) rfl (by rw [ex10, ci_1]) ?_
          refine kj_goto (pc := 69) C dX1_isAtRest_69 (tgt := 10) (by decide) ?_
          exact ih _ _ _ _ h
        · have h := of_neg c9 h
          exact k_X1_isAtRest_64 C hr hR  _ _ _ _ _ h
def f_X1_isAtRest (v1 : Int32) (v2 : Int32) (M : Mem) : Option (Int32) := lt_ ((v1 * (6 : Int32)) + v2) (fun x1 => f_X1_isAtRest_10 M 100 v1 v2 x1 0)
set_option maxHeartbeats 4000000 in
set_option maxRecDepth 100000 in
theorem ct_X1_isAtRest {g : GT} {l : Launch} {v1 : Int32} {v2 : Int32} {M : Mem} {t : Int32} (h : f_X1_isAtRest v1 v2 M = some t) : Ct g l 0 yX1_isAtRest cX1_isAtRest 5 (some .boolean) [.ref (ga g 25 0), .int v1, .int v2] M (some (.int t)) M := by
  refine ct_of (k := 2) (by decide) (Nat.le_of_ble_eq_true rfl) rfl (fun X C hl hr hR => ?_)
  subst hl
  have C : Cx g X cX1_isAtRest RX1 5 0 := C
  unfold f_X1_isAtRest at h
  refine kj_ild1 (pc := 0) C dX1_isAtRest_0 ?_
  refine kj_bipush (pc := 1) C (v := 6) dX1_isAtRest_1 cb_6 ?_
  refine kj_imul (pc := 3) C dX1_isAtRest_3 ?_
  refine kj_ild2 (pc := 4) C dX1_isAtRest_4 ?_
  refine kj_iadd (pc := 5) C dX1_isAtRest_5 ?_
  obtain ⟨x1, ex1, h⟩ := of_lt h
  refine kj_ni ex1 ?_
  refine kj_ist3 (pc := 6) C dX1_isAtRest_6 (Nat.le_of_ble_eq_true rfl) rfl ?_
  refine kj_iconst (pc := 7) C (v := 0) dX1_isAtRest_7 ci_0 ?_
  refine kj_ist4 (pc := 8) C dX1_isAtRest_8 (Nat.le_of_ble_eq_true rfl) rfl ?_
  exact k_X1_isAtRest_10 C hr hR 100 _ _ _ _ h
def f_X1_restingPairs_146 (s0 : Int32) (M : Mem) : Option (Int32 × Mem) := some (s0, M)
set_option maxHeartbeats 4000000 in
set_option maxRecDepth 100000 in
theorem k_X1_restingPairs_146 {g : GT} {X : XT} {t : Int32 × Mem} (C : Cx g X cX1_restingPairs RX1 8 5) (hr : (xt X).sig.returnType = some .int) (hR : Rt g X (some (.int t.1)) t.2) : ∀ (s0 : Int32) (M : Mem) (w0 w1 w2 w3 w4 w5 w6 w7 : Option Value), f_X1_restingPairs_146 s0 M = some t → Kj g X 8 146 [w0, w1, w2, w3, w4, w5, w6, w7] [.int s0] M := by
  intro s0 M w0 w1 w2 w3 w4 w5 w6 w7 h
  unfold f_X1_restingPairs_146 at h
  cases h
  exact kj_iret (pc := 146) C hr hR dX1_restingPairs_146
def f_X1_restingPairs_123 (k62 : Int32 → Int32 → Int32 → Int32 → Mem → Option (Int32 × Mem)) (k77 : Int32 → Int32 → Int32 → Int32 → Int32 → Mem → Option (Int32 × Mem)) (v3 : Int32) (v4 : Int32) (v5 : Int32) (v6 : Int32) (v7 : Int32) (M : Mem) : Option (Int32 × Mem) := lt_ (v7 + 1) (fun x1 => k77 v3 v4 v5 v6 x1 M)
set_option maxHeartbeats 4000000 in
set_option maxRecDepth 100000 in
theorem k_X1_restingPairs_123 {g : GT} {X : XT} {k62 : Int32 → Int32 → Int32 → Int32 → Mem → Option (Int32 × Mem)} {k77 : Int32 → Int32 → Int32 → Int32 → Int32 → Mem → Option (Int32 × Mem)} {t : Int32 × Mem} (C : Cx g X cX1_restingPairs RX1 8 5) (hr : (xt X).sig.returnType = some .int) (hR : Rt g X (some (.int t.1)) t.2) (hk62 : ∀ (v3 : Int32) (v4 : Int32) (v5 : Int32) (v6 : Int32) (M : Mem) (w1 w2 w7 : Option Value), k62 v3 v4 v5 v6 M = some t → Kj g X 8 62 [some (.ref (ga g 25 0)), w1, w2, some (.int v3), some (.int v4), some (.int v5), some (.int v6), w7] [] M) (hk77 : ∀ (v3 : Int32) (v4 : Int32) (v5 : Int32) (v6 : Int32) (v7 : Int32) (M : Mem) (w1 w2 : Option Value), k77 v3 v4 v5 v6 v7 M = some t → Kj g X 8 77 [some (.ref (ga g 25 0)), w1, w2, some (.int v3), some (.int v4), some (.int v5), some (.int v6), some (.int v7)] [] M) : ∀ (v3 : Int32) (v4 : Int32) (v5 : Int32) (v6 : Int32) (v7 : Int32) (M : Mem) (w1 w2 : Option Value), f_X1_restingPairs_123 k62 k77 v3 v4 v5 v6 v7 M = some t → Kj g X 8 123 [some (.ref (ga g 25 0)), w1, w2, some (.int v3), some (.int v4), some (.int v5), some (.int v6), some (.int v7)] [] M := by
  intro v3 v4 v5 v6 v7 M w1 w2 h
  unfold f_X1_restingPairs_123 at h
  obtain ⟨x1, ex1, h⟩ := of_lt h
  refine kj_iinc7 (pc := 123) C (v := x1) dX1_restingPairs_123 (Nat.le_of_ble_eq_true rfl) rfl (by rw [ex1, ci_1]) ?_
  refine kj_goto (pc := 126) C dX1_restingPairs_126 (tgt := 77) (by decide) ?_
  exact hk77 _ _ _ _ _ _ _ _ h
def f_X1_restingPairs_118 (k62 : Int32 → Int32 → Int32 → Int32 → Mem → Option (Int32 × Mem)) (k77 : Int32 → Int32 → Int32 → Int32 → Int32 → Mem → Option (Int32 × Mem)) (v3 : Int32) (v4 : Int32) (v6 : Int32) (v7 : Int32) (s0 : Int32) (M : Mem) : Option (Int32 × Mem) := lt_ (v4 + 1) (fun x1 => f_X1_restingPairs_123 k62 k77 v3 x1 s0 v6 v7 M)
set_option maxHeartbeats 4000000 in
set_option maxRecDepth 100000 in
theorem k_X1_restingPairs_118 {g : GT} {X : XT} {k62 : Int32 → Int32 → Int32 → Int32 → Mem → Option (Int32 × Mem)} {k77 : Int32 → Int32 → Int32 → Int32 → Int32 → Mem → Option (Int32 × Mem)} {t : Int32 × Mem} (C : Cx g X cX1_restingPairs RX1 8 5) (hr : (xt X).sig.returnType = some .int) (hR : Rt g X (some (.int t.1)) t.2) (hk62 : ∀ (v3 : Int32) (v4 : Int32) (v5 : Int32) (v6 : Int32) (M : Mem) (w1 w2 w7 : Option Value), k62 v3 v4 v5 v6 M = some t → Kj g X 8 62 [some (.ref (ga g 25 0)), w1, w2, some (.int v3), some (.int v4), some (.int v5), some (.int v6), w7] [] M) (hk77 : ∀ (v3 : Int32) (v4 : Int32) (v5 : Int32) (v6 : Int32) (v7 : Int32) (M : Mem) (w1 w2 : Option Value), k77 v3 v4 v5 v6 v7 M = some t → Kj g X 8 77 [some (.ref (ga g 25 0)), w1, w2, some (.int v3), some (.int v4), some (.int v5), some (.int v6), some (.int v7)] [] M) : ∀ (v3 : Int32) (v4 : Int32) (v6 : Int32) (v7 : Int32) (s0 : Int32) (M : Mem) (w1 w2 w5 : Option Value), f_X1_restingPairs_118 k62 k77 v3 v4 v6 v7 s0 M = some t → Kj g X 8 118 [some (.ref (ga g 25 0)), w1, w2, some (.int v3), some (.int v4), w5, some (.int v6), some (.int v7)] [.int s0] M := by
  intro v3 v4 v6 v7 s0 M w1 w2 w5 h
  unfold f_X1_restingPairs_118 at h
  refine kj_ist5 (pc := 118) C dX1_restingPairs_118 (Nat.le_of_ble_eq_true rfl) rfl ?_
  obtain ⟨x1, ex1, h⟩ := of_lt h
  refine kj_iinc4 (pc := 120) C (v := x1) dX1_restingPairs_120 (Nat.le_of_ble_eq_true rfl) rfl (by rw [ex1, ci_1]) ?_
  exact k_X1_restingPairs_123 C hr hR hk62 hk77 _ _ _ _ _ _ _ _ h
def f_X1_restingPairs_77 (k62 : Int32 → Int32 → Int32 → Int32 → Mem → Option (Int32 × Mem)) (n : Nat) (v3 : Int32) (v4 : Int32) (v5 : Int32) (v6 : Int32) (v7 : Int32) (M : Mem) : Option (Int32 × Mem) := match n with
  | 0 => none
  | n + 1 => if (M.1 19 0 3) ≤ v7 then lt_ (v6 + 1) (fun x2 => k62 v3 v4 v5 x2 M) else (f_X1_isAtRest v6 v7 M).bind (fun q3 => if q3 = 0 then f_X1_restingPairs_123 k62 (f_X1_restingPairs_77 k62 n) v3 v4 v5 v6 v7 M else if v4 = 0 then f_X1_restingPairs_118 k62 (f_X1_restingPairs_77 k62 n) v3 v4 v6 v7 (((10 : Int32) * v6) + v7) M else f_X1_restingPairs_118 k62 (f_X1_restingPairs_77 k62 n) v3 v4 v6 v7 v5 M)
set_option maxHeartbeats 4000000 in
set_option maxRecDepth 100000 in
theorem k_X1_restingPairs_77 {g : GT} {X : XT} {k62 : Int32 → Int32 → Int32 → Int32 → Mem → Option (Int32 × Mem)} {t : Int32 × Mem} (C : Cx g X cX1_restingPairs RX1 8 5) (hr : (xt X).sig.returnType = some .int) (hR : Rt g X (some (.int t.1)) t.2) (hk62 : ∀ (v3 : Int32) (v4 : Int32) (v5 : Int32) (v6 : Int32) (M : Mem) (w1 w2 w7 : Option Value), k62 v3 v4 v5 v6 M = some t → Kj g X 8 62 [some (.ref (ga g 25 0)), w1, w2, some (.int v3), some (.int v4), some (.int v5), some (.int v6), w7] [] M) (n : Nat) : ∀ (v3 : Int32) (v4 : Int32) (v5 : Int32) (v6 : Int32) (v7 : Int32) (M : Mem) (w1 w2 : Option Value), f_X1_restingPairs_77 k62 n v3 v4 v5 v6 v7 M = some t → Kj g X 8 77 [some (.ref (ga g 25 0)), w1, w2, some (.int v3), some (.int v4), some (.int v5), some (.int v6), some (.int v7)] [] M := by
  induction n with
  | zero => intro v3 v4 v5 v6 v7 M w1 w2 h; rw [f_X1_restingPairs_77] at h; cases h
  | succ n ih =>
    intro v3 v4 v5 v6 v7 M w1 w2 h
    rw [f_X1_restingPairs_77] at h
    refine kj_ild7 (pc := 77) C dX1_restingPairs_77 ?_
    refine kj_ald0 (pc := 79) C dX1_restingPairs_79 ?_
    refine gf_X1_21 (pc := 80) C dX1_restingPairs_80 ?_
    refine gf_X1_68 (pc := 83) C dX1_restingPairs_83 ?_
    refine kj_icmp_ge (pc := 86) C dX1_restingPairs_86 (tgt := 129) (by decide) (fun c1 => ?_) (fun c1 => ?_)
    · have h := of_pos c1 h
      obtain ⟨x2, ex2, h⟩ := of_lt h
      refine kj_iinc6 (pc := 129) C (v := x2) dX1_restingPairs_129 (Nat.le_of_ble_eq_true rfl) rfl (by rw [ex2, ci_1]) ?_
      refine kj_goto (pc := 132) C dX1_restingPairs_132 (tgt := 62) (by decide) ?_
      exact hk62 _ _ _ _ _ _ _ _ h
    · have h := of_neg c1 h
      refine kj_ald0 (pc := 89) C dX1_restingPairs_89 ?_
      refine kj_ild6 (pc := 90) C dX1_restingPairs_90 ?_
      refine kj_ild7 (pc := 92) C dX1_restingPairs_92 ?_
      obtain ⟨q3, eq3, h⟩ := of_bind h
      refine kj_callV1 (pc := 94) C (ct_X1_isAtRest eq3) (Nat.le_of_ble_eq_true rfl) mi_X1_isAtRest ml_X1_85 rc_25 rfl rfl ar2 (Nat.le_of_ble_eq_true rfl) dX1_restingPairs_94 ?_
      refine kj_if_eq (pc := 97) C dX1_restingPairs_97 (tgt := 123) (by decide) (fun c4 => ?_) (fun c4 => ?_)
      · have h := of_pos c4 h
        exact k_X1_restingPairs_123 C hr hR hk62 ih _ _ _ _ _ _ _ _ h
      · have h := of_neg c4 h
        refine kj_ild4 (pc := 100) C dX1_restingPairs_100 ?_
        refine kj_if_ne (pc := 102) C dX1_restingPairs_102 (tgt := 116) (by decide) (fun c5 => ?_) (fun c5 => ?_)
        · have h := of_neg c5 h
          refine kj_ild5 (pc := 116) C dX1_restingPairs_116 ?_
          exact k_X1_restingPairs_118 C hr hR hk62 ih _ _ _ _ _ _ _ _ _ h
        · have h := of_pos c5 h
          refine kj_bipush (pc := 105) C (v := 10) dX1_restingPairs_105 cb_10 ?_
          refine kj_ild6 (pc := 107) C dX1_restingPairs_107 ?_
          refine kj_imul (pc := 109) C dX1_restingPairs_109 ?_
          refine kj_ild7 (pc := 110) C dX1_restingPairs_110 ?_
          refine kj_iadd (pc := 112) C dX1_restingPairs_112 ?_
          refine kj_goto (pc := 113) C dX1_restingPairs_113 (tgt := 118) (by decide) ?_
          exact k_X1_restingPairs_118 C hr hR hk62 ih _ _ _ _ _ _ _ _ _ h
def f_X1_restingPairs_62 (n : Nat) (v3 : Int32) (v4 : Int32) (v5 : Int32) (v6 : Int32) (M : Mem) : Option (Int32 × Mem) := match n with
  | 0 => none
  | n + 1 => if (M.1 19 0 3) ≤ v6 then if v3 = 0 then f_X1_restingPairs_146 v4 M else f_X1_restingPairs_146 v5 M else f_X1_restingPairs_77 (f_X1_restingPairs_62 n) 100 v3 v4 v5 v6 0 M
set_option maxHeartbeats 4000000 in
set_option maxRecDepth 100000 in
theorem k_X1_restingPairs_62 {g : GT} {X : XT} {t : Int32 × Mem} (C : Cx g X cX1_restingPairs RX1 8 5) (hr : (xt X).sig.returnType = some .int) (hR : Rt g X (some (.int t.1)) t.2) (n : Nat) : ∀ (v3 : Int32) (v4 : Int32) (v5 : Int32) (v6 : Int32) (M : Mem) (w1 w2 w7 : Option Value), f_X1_restingPairs_62 n v3 v4 v5 v6 M = some t → Kj g X 8 62 [some (.ref (ga g 25 0)), w1, w2, some (.int v3), some (.int v4), some (.int v5), some (.int v6), w7] [] M := by
  induction n with
  | zero => intro v3 v4 v5 v6 M w1 w2 w7 h; rw [f_X1_restingPairs_62] at h; cases h
  | succ n ih =>
    intro v3 v4 v5 v6 M w1 w2 w7 h
    rw [f_X1_restingPairs_62] at h
    refine kj_ild6 (pc := 62) C dX1_restingPairs_62 ?_
    refine kj_ald0 (pc := 64) C dX1_restingPairs_64 ?_
    refine gf_X1_21 (pc := 65) C dX1_restingPairs_65 ?_
    refine gf_X1_68 (pc := 68) C dX1_restingPairs_68 ?_
    refine kj_icmp_ge (pc := 71) C dX1_restingPairs_71 (tgt := 135) (by decide) (fun c1 => ?_) (fun c1 => ?_)
    · have h := of_pos c1 h
      refine kj_ild3 (pc := 135) C dX1_restingPairs_135 ?_
      refine kj_if_eq (pc := 136) C dX1_restingPairs_136 (tgt := 144) (by decide) (fun c2 => ?_) (fun c2 => ?_)
      · have h := of_pos c2 h
        refine kj_ild4 (pc := 144) C dX1_restingPairs_144 ?_
        exact k_X1_restingPairs_146 C hr hR _ _ _ _ _ _ _ _ _ _ h
      · have h := of_neg c2 h
        refine kj_ild5 (pc := 139) C dX1_restingPairs_139 ?_
        refine kj_goto (pc := 141) C dX1_restingPairs_141 (tgt := 146) (by decide) ?_
        exact k_X1_restingPairs_146 C hr hR _ _ _ _ _ _ _ _ _ _ h
    · have h := of_neg c1 h
      refine kj_iconst (pc := 74) C (v := 0) dX1_restingPairs_74 ci_0 ?_
      refine kj_ist7 (pc := 75) C dX1_restingPairs_75 (Nat.le_of_ble_eq_true rfl) rfl ?_
      exact k_X1_restingPairs_77 C hr hR ih 100 _ _ _ _ _ _ _ _ h
def f_X1_restingPairs_18 (k3 : Int32 → Int32 → Int32 → Int32 → Mem → Option (Int32 × Mem)) (n : Nat) (v1 : Int32) (v2 : Int32) (v3 : Int32) (v4 : Int32) (v5 : Int32) (M : Mem) : Option (Int32 × Mem) := match n with
  | 0 => none
  | n + 1 => if (M.1 19 0 3) ≤ v5 then lt_ (v4 + 1) (fun x2 => k3 v1 v2 v3 x2 M) else (f_X1_giveAndCount v1 v2 v4 v5 M).bind (fun q3 => lt_ (v5 + 1) (fun x4 => f_X1_restingPairs_18 k3 n v1 v2 v3 v4 x4 q3))
set_option maxHeartbeats 4000000 in
set_option maxRecDepth 100000 in
theorem k_X1_restingPairs_18 {g : GT} {X : XT} {k3 : Int32 → Int32 → Int32 → Int32 → Mem → Option (Int32 × Mem)} {t : Int32 × Mem} (C : Cx g X cX1_restingPairs RX1 8 5) (hr : (xt X).sig.returnType = some .int) (hR : Rt g X (some (.int t.1)) t.2) (hk3 : ∀ (v1 : Int32) (v2 : Int32) (v3 : Int32) (v4 : Int32) (M : Mem) (w5 w6 w7 : Option Value), k3 v1 v2 v3 v4 M = some t → Kj g X 8 3 [some (.ref (ga g 25 0)), some (.int v1), some (.int v2), some (.int v3), some (.int v4), w5, w6, w7] [] M) (n : Nat) : ∀ (v1 : Int32) (v2 : Int32) (v3 : Int32) (v4 : Int32) (v5 : Int32) (M : Mem) (w6 w7 : Option Value), f_X1_restingPairs_18 k3 n v1 v2 v3 v4 v5 M = some t → Kj g X 8 18 [some (.ref (ga g 25 0)), some (.int v1), some (.int v2), some (.int v3), some (.int v4), some (.int v5), w6, w7] [] M := by
  induction n with
  | zero => intro v1 v2 v3 v4 v5 M w6 w7 h; rw [f_X1_restingPairs_18] at h; cases h
  | succ n ih =>
    intro v1 v2 v3 v4 v5 M w6 w7 h
    rw [f_X1_restingPairs_18] at h
    refine kj_ild5 (pc := 18) C dX1_restingPairs_18 ?_
    refine kj_ald0 (pc := 20) C dX1_restingPairs_20 ?_
    refine gf_X1_21 (pc := 21) C dX1_restingPairs_21 ?_
    refine gf_X1_68 (pc := 24) C dX1_restingPairs_24 ?_
    refine kj_icmp_ge (pc := 27) C dX1_restingPairs_27 (tgt := 46) (by decide) (fun c1 => ?_) (fun c1 => ?_)
    · have h := of_pos c1 h
      obtain ⟨x2, ex2, h⟩ := of_lt h
      refine kj_iinc4 (pc := 46) C (v := x2) dX1_restingPairs_46 (Nat.le_of_ble_eq_true rfl) rfl (by rw [ex2, ci_1]) ?_
      refine kj_goto (pc := 49) C dX1_restingPairs_49 (tgt := 3) (by decide) ?_
      exact hk3 _ _ _ _ _ _ _ _ h
    · have h := of_neg c1 h
      refine kj_ald0 (pc := 30) C dX1_restingPairs_30 ?_
      refine kj_ild1 (pc := 31) C dX1_restingPairs_31 ?_
      refine kj_ild2 (pc := 32) C dX1_restingPairs_32 ?_
      refine kj_ild4 (pc := 33) C dX1_restingPairs_33 ?_
      refine kj_ild5 (pc := 35) C dX1_restingPairs_35 ?_
      obtain ⟨q3, eq3, h⟩ := of_bind h
      refine kj_callV0 (pc := 37) C (ct_X1_giveAndCount eq3) (Nat.le_of_ble_eq_true rfl) mi_X1_giveAndCount ml_X1_81 rc_25 rfl rfl ar4 (Nat.le_of_ble_eq_true rfl) dX1_restingPairs_37 ?_
      obtain ⟨x4, ex4, h⟩ := of_lt h
      refine kj_iinc5 (pc := 40) C (v := x4) dX1_restingPairs_40 (Nat.le_of_ble_eq_true rfl) rfl (by rw [ex4, ci_1]) ?_
      refine kj_goto (pc := 43) C dX1_restingPairs_43 (tgt := 18) (by decide) ?_
      exact ih _ _ _ _ _ _ _ _ h
def f_X1_restingPairs_3 (n : Nat) (v1 : Int32) (v2 : Int32) (v3 : Int32) (v4 : Int32) (M : Mem) : Option (Int32 × Mem) := match n with
  | 0 => none
  | n + 1 => if (M.1 19 0 3) ≤ v4 then f_X1_restingPairs_62 100 v3 0 (-9) 0 M else f_X1_restingPairs_18 (f_X1_restingPairs_3 n) 100 v1 v2 v3 v4 0 M
set_option maxHeartbeats 4000000 in
set_option maxRecDepth 100000 in
theorem k_X1_restingPairs_3 {g : GT} {X : XT} {t : Int32 × Mem} (C : Cx g X cX1_restingPairs RX1 8 5) (hr : (xt X).sig.returnType = some .int) (hR : Rt g X (some (.int t.1)) t.2) (n : Nat) : ∀ (v1 : Int32) (v2 : Int32) (v3 : Int32) (v4 : Int32) (M : Mem) (w5 w6 w7 : Option Value), f_X1_restingPairs_3 n v1 v2 v3 v4 M = some t → Kj g X 8 3 [some (.ref (ga g 25 0)), some (.int v1), some (.int v2), some (.int v3), some (.int v4), w5, w6, w7] [] M := by
  induction n with
  | zero => intro v1 v2 v3 v4 M w5 w6 w7 h; rw [f_X1_restingPairs_3] at h; cases h
  | succ n ih =>
    intro v1 v2 v3 v4 M w5 w6 w7 h
    rw [f_X1_restingPairs_3] at h
    refine kj_ild4 (pc := 3) C dX1_restingPairs_3 ?_
    refine kj_ald0 (pc := 5) C dX1_restingPairs_5 ?_
    refine gf_X1_21 (pc := 6) C dX1_restingPairs_6 ?_
    refine gf_X1_68 (pc := 9) C dX1_restingPairs_9 ?_
    refine kj_icmp_ge (pc := 12) C dX1_restingPairs_12 (tgt := 52) (by decide) (fun c1 => ?_) (fun c1 => ?_)
    · have h := of_pos c1 h
      refine kj_iconst (pc := 52) C (v := 0) dX1_restingPairs_52 ci_0 ?_
      refine kj_ist4 (pc := 53) C dX1_restingPairs_53 (Nat.le_of_ble_eq_true rfl) rfl ?_
      refine kj_bipush (pc := 55) C (v := (-9)) dX1_restingPairs_55 cb_m9 ?_
      refine kj_ist5 (pc := 57) C dX1_restingPairs_57 (Nat.le_of_ble_eq_true rfl) rfl ?_
      refine kj_iconst (pc := 59) C (v := 0) dX1_restingPairs_59 ci_0 ?_
      refine kj_ist6 (pc := 60) C dX1_restingPairs_60 (Nat.le_of_ble_eq_true rfl) rfl ?_
      exact k_X1_restingPairs_62 C hr hR 100 _ _ _ _ _ _ _ _ h
    · have h := of_neg c1 h
      refine kj_iconst (pc := 15) C (v := 0) dX1_restingPairs_15 ci_0 ?_
      refine kj_ist5 (pc := 16) C dX1_restingPairs_16 (Nat.le_of_ble_eq_true rfl) rfl ?_
      exact k_X1_restingPairs_18 C hr hR ih 100 _ _ _ _ _ _ _ _ h
def f_X1_restingPairs (v1 : Int32) (v2 : Int32) (v3 : Int32) (M : Mem) : Option (Int32 × Mem) := f_X1_restingPairs_3 100 v1 v2 v3 0 M
set_option maxHeartbeats 4000000 in
set_option maxRecDepth 100000 in
theorem ct_X1_restingPairs {g : GT} {l : Launch} {v1 : Int32} {v2 : Int32} {v3 : Int32} {M : Mem} {t : Int32 × Mem} (h : f_X1_restingPairs v1 v2 v3 M = some t) : Ct g l 5 yX1_restingPairs cX1_restingPairs 8 (some .int) [.ref (ga g 25 0), .int v1, .int v2, .int v3] M (some (.int t.1)) t.2 := by
  refine ct_of (k := 4) (by decide) (Nat.le_of_ble_eq_true rfl) rfl (fun X C hl hr hR => ?_)
  subst hl
  have C : Cx g X cX1_restingPairs RX1 8 5 := C
  unfold f_X1_restingPairs at h
  refine kj_iconst (pc := 0) C (v := 0) dX1_restingPairs_0 ci_0 ?_
  refine kj_ist4 (pc := 1) C dX1_restingPairs_1 (Nat.le_of_ble_eq_true rfl) rfl ?_
  exact k_X1_restingPairs_3 C hr hR 100 _ _ _ _ _ _ _ _ h
def f_X9_power_4 (M : Mem) (n : Nat) (v0 : Int32) (v1 : Int32) (v2 : Int32) (v3 : Int32) : Option (Int32) := match n with
  | 0 => none
  | n + 1 => if v1 ≤ v3 then some v2 else lt_ (v2 * v0) (fun x2 => lt_ (v3 + 1) (fun x3 => f_X9_power_4 M n v0 v1 x2 x3))
set_option maxHeartbeats 4000000 in
set_option maxRecDepth 100000 in
theorem k_X9_power_4 {g : GT} {X : XT} {M : Mem} {t : Int32} (C : Cx g X cX9_power RX9 4 0) (hr : (xt X).sig.returnType = some .int) (hR : Rt g X (some (.int t)) M) (n : Nat) : ∀ (v0 : Int32) (v1 : Int32) (v2 : Int32) (v3 : Int32), f_X9_power_4 M n v0 v1 v2 v3 = some t → Kj g X 4 4 [some (.int v0), some (.int v1), some (.int v2), some (.int v3)] [] M := by
  induction n with
  | zero => intro v0 v1 v2 v3 h; rw [f_X9_power_4] at h; cases h
  | succ n ih =>
    intro v0 v1 v2 v3 h
    rw [f_X9_power_4] at h
    refine kj_ild3 (pc := 4) C dX9_power_4 ?_
    refine kj_ild1 (pc := 5) C dX9_power_5 ?_
    refine kj_icmp_ge (pc := 6) C dX9_power_6 (tgt := 19) (by decide) (fun c1 => ?_) (fun c1 => ?_)
    · have h := of_pos c1 h
      refine kj_ild2 (pc := 19) C dX9_power_19 ?_
      cases h
      exact kj_iret (pc := 20) C hr hR dX9_power_20
    · have h := of_neg c1 h
      refine kj_ild2 (pc := 9) C dX9_power_9 ?_
      refine kj_ild0 (pc := 10) C dX9_power_10 ?_
      refine kj_imul (pc := 11) C dX9_power_11 ?_
      obtain ⟨x2, ex2, h⟩ := of_lt h
      refine kj_ni ex2 ?_
      refine kj_ist2 (pc := 12) C dX9_power_12 (Nat.le_of_ble_eq_true rfl) rfl ?_
      obtain ⟨x3, ex3, h⟩ := of_lt h
      refine kj_iinc3 (pc := 13) C (v := x3) dX9_power_13 (Nat.le_of_ble_eq_true rfl) rfl (by rw [ex3, ci_1]) ?_
      refine kj_goto (pc := 16) C dX9_power_16 (tgt := 4) (by decide) ?_
      exact ih _ _ _ _ h
def f_X9_power (v0 : Int32) (v1 : Int32) (M : Mem) : Option (Int32) := f_X9_power_4 M 100 v0 v1 1 0
set_option maxHeartbeats 4000000 in
set_option maxRecDepth 100000 in
theorem ct_X9_power {g : GT} {l : Launch} {v0 : Int32} {v1 : Int32} {M : Mem} {t : Int32} (h : f_X9_power v0 v1 M = some t) : Ct g l 0 yX9_power cX9_power 4 (some .int) [.int v0, .int v1] M (some (.int t)) M := by
  refine ct_of (k := 2) (by decide) (Nat.le_of_ble_eq_true rfl) rfl (fun X C hl hr hR => ?_)
  subst hl
  have C : Cx g X cX9_power RX9 4 0 := C
  unfold f_X9_power at h
  refine kj_iconst (pc := 0) C (v := 1) dX9_power_0 ci_1 ?_
  refine kj_ist2 (pc := 1) C dX9_power_1 (Nat.le_of_ble_eq_true rfl) rfl ?_
  refine kj_iconst (pc := 2) C (v := 0) dX9_power_2 ci_0 ?_
  refine kj_ist3 (pc := 3) C dX9_power_3 (Nat.le_of_ble_eq_true rfl) rfl ?_
  exact k_X9_power_4 C hr hR 100 _ _ _ _ h
def f_X1_chanceOfOneNote_78 (k15 : Int32 → Int32 → Int32 → Int32 → Int32 → Int32 → Mem → Option (Int32 × Mem)) (v1 : Int32) (v2 : Int32) (v3 : Int32) (v4 : Int32) (v5 : Int32) (v6 : Int32) (M : Mem) : Option (Int32 × Mem) := lt_ (v6 + 1) (fun x1 => k15 v1 v2 v3 v4 v5 x1 M)
set_option maxHeartbeats 4000000 in
set_option maxRecDepth 100000 in
theorem k_X1_chanceOfOneNote_78 {g : GT} {X : XT} {k15 : Int32 → Int32 → Int32 → Int32 → Int32 → Int32 → Mem → Option (Int32 × Mem)} {t : Int32 × Mem} (C : Cx g X cX1_chanceOfOneNote RX1 9 5) (hr : (xt X).sig.returnType = some .int) (hR : Rt g X (some (.int t.1)) t.2) (hk15 : ∀ (v1 : Int32) (v2 : Int32) (v3 : Int32) (v4 : Int32) (v5 : Int32) (v6 : Int32) (M : Mem) (w7 w8 : Option Value), k15 v1 v2 v3 v4 v5 v6 M = some t → Kj g X 9 15 [some (.ref (ga g 25 0)), some (.int v1), some (.int v2), some (.int v3), some (.int v4), some (.int v5), some (.int v6), w7, w8] [] M) : ∀ (v1 : Int32) (v2 : Int32) (v3 : Int32) (v4 : Int32) (v5 : Int32) (v6 : Int32) (M : Mem) (w7 w8 : Option Value), f_X1_chanceOfOneNote_78 k15 v1 v2 v3 v4 v5 v6 M = some t → Kj g X 9 78 [some (.ref (ga g 25 0)), some (.int v1), some (.int v2), some (.int v3), some (.int v4), some (.int v5), some (.int v6), w7, w8] [] M := by
  intro v1 v2 v3 v4 v5 v6 M w7 w8 h
  unfold f_X1_chanceOfOneNote_78 at h
  obtain ⟨x1, ex1, h⟩ := of_lt h
  refine kj_iinc6 (pc := 78) C (v := x1) dX1_chanceOfOneNote_78 (Nat.le_of_ble_eq_true rfl) rfl (by rw [ex1, ci_1]) ?_
  refine kj_goto (pc := 81) C dX1_chanceOfOneNote_81 (tgt := 15) (by decide) ?_
  exact hk15 _ _ _ _ _ _ _ _ _ h
def f_X1_chanceOfOneNote_15 (n : Nat) (v1 : Int32) (v2 : Int32) (v3 : Int32) (v4 : Int32) (v5 : Int32) (v6 : Int32) (M : Mem) : Option (Int32 × Mem) := match n with
  | 0 => none
  | n + 1 => if v4 < v6 then (f_X9_power 10 (M.1 19 0 3) M).bind (fun q2 => (f_X9_sideOfFraction v5 q2 v3 M).bind (fun q3 => some (q3, M))) else (f_J6_bitCount_0f7a4 v6 M).bind (fun q4 => (f_X9_power v2 ((M.1 19 0 3) - q4) M).bind (fun q5 => (f_X9_power ((10 : Int32) - v2) q4 M).bind (fun q6 => lt_ (q5 * q6) (fun x7 => if x7 ≤ 0 then f_X1_chanceOfOneNote_78 (f_X1_chanceOfOneNote_15 n) v1 v2 v3 v4 v5 v6 M else (f_X1_richnessOfSome v6 v1 M).bind (fun q9 => if 1 < q9.1 then f_X1_chanceOfOneNote_78 (f_X1_chanceOfOneNote_15 n) v1 v2 v3 v4 v5 v6 q9.2 else lt_ (v5 + x7) (fun x11 => f_X1_chanceOfOneNote_78 (f_X1_chanceOfOneNote_15 n) v1 v2 v3 v4 x11 v6 q9.2))))))
set_option maxHeartbeats 4000000 in
set_option maxRecDepth 100000 in
theorem k_X1_chanceOfOneNote_15 {g : GT} {X : XT} {t : Int32 × Mem} (C : Cx g X cX1_chanceOfOneNote RX1 9 5) (hr : (xt X).sig.returnType = some .int) (hR : Rt g X (some (.int t.1)) t.2) (n : Nat) : ∀ (v1 : Int32) (v2 : Int32) (v3 : Int32) (v4 : Int32) (v5 : Int32) (v6 : Int32) (M : Mem) (w7 w8 : Option Value), f_X1_chanceOfOneNote_15 n v1 v2 v3 v4 v5 v6 M = some t → Kj g X 9 15 [some (.ref (ga g 25 0)), some (.int v1), some (.int v2), some (.int v3), some (.int v4), some (.int v5), some (.int v6), w7, w8] [] M := by
  induction n with
  | zero => intro v1 v2 v3 v4 v5 v6 M w7 w8 h; rw [f_X1_chanceOfOneNote_15] at h; cases h
  | succ n ih =>
    intro v1 v2 v3 v4 v5 v6 M w7 w8 h
    rw [f_X1_chanceOfOneNote_15] at h
    refine kj_ild6 (pc := 15) C dX1_chanceOfOneNote_15 ?_
    refine kj_ild4 (pc := 17) C dX1_chanceOfOneNote_17 ?_
    refine kj_icmp_gt (pc := 19) C dX1_chanceOfOneNote_19 (tgt := 84) (by decide) (fun c1 => ?_) (fun c1 => ?_)
    · have h := of_pos c1 h
      refine kj_ild5 (pc := 84) C dX1_chanceOfOneNote_84 ?_
      refine kj_bipush (pc := 86) C (v := 10) dX1_chanceOfOneNote_86 cb_10 ?_
      refine kj_ald0 (pc := 88) C dX1_chanceOfOneNote_88 ?_
      refine gf_X1_21 (pc := 89) C dX1_chanceOfOneNote_89 ?_
      refine gf_X1_68 (pc := 92) C dX1_chanceOfOneNote_92 ?_
      obtain ⟨q2, eq2, h⟩ := of_bind h
      refine kj_callSN1 (pc := 95) C (ct_X9_power eq2) (Nat.le_of_ble_eq_true rfl) mi_X9_power ml_X1_99 rfl as2 (Nat.le_of_ble_eq_true rfl) dX1_chanceOfOneNote_95 ?_
      refine kj_ild3 (pc := 98) C dX1_chanceOfOneNote_98 ?_
      obtain ⟨q3, eq3, h⟩ := of_bind h
      refine kj_callSN1 (pc := 99) C (ct_X9_sideOfFraction eq3) (Nat.le_of_ble_eq_true rfl) mi_X9_sideOfFraction ml_X1_74 rfl as3 (Nat.le_of_ble_eq_true rfl) dX1_chanceOfOneNote_99 ?_
      cases h
      exact kj_iret (pc := 102) C hr hR dX1_chanceOfOneNote_102
    · have h := of_neg c1 h
      refine kj_ild6 (pc := 22) C dX1_chanceOfOneNote_22 ?_
      obtain ⟨q4, eq4, h⟩ := of_bind h
      refine kj_callS1 (pc := 24) C (ct_J6_bitCount_0f7a4 eq4) (Nat.le_of_ble_eq_true rfl) mi_J6_bitCount_0f7a4 ml_X1_59 rfl as1 (Nat.le_of_ble_eq_true rfl) dX1_chanceOfOneNote_24 ?_
      refine kj_ist7 (pc := 27) C dX1_chanceOfOneNote_27 (Nat.le_of_ble_eq_true rfl) rfl ?_
      refine kj_ild2 (pc := 29) C dX1_chanceOfOneNote_29 ?_
      refine kj_ald0 (pc := 30) C dX1_chanceOfOneNote_30 ?_
      refine gf_X1_21 (pc := 31) C dX1_chanceOfOneNote_31 ?_
      refine gf_X1_68 (pc := 34) C dX1_chanceOfOneNote_34 ?_
      refine kj_ild7 (pc := 37) C dX1_chanceOfOneNote_37 ?_
      refine kj_isub (pc := 39) C dX1_chanceOfOneNote_39 ?_
      obtain ⟨q5, eq5, h⟩ := of_bind h
      refine kj_callSN1 (pc := 40) C (ct_X9_power eq5) (Nat.le_of_ble_eq_true rfl) mi_X9_power ml_X1_99 rfl as2 (Nat.le_of_ble_eq_true rfl) dX1_chanceOfOneNote_40 ?_
      refine kj_bipush (pc := 43) C (v := 10) dX1_chanceOfOneNote_43 cb_10 ?_
      refine kj_ild2 (pc := 45) C dX1_chanceOfOneNote_45 ?_
      refine kj_isub (pc := 46) C dX1_chanceOfOneNote_46 ?_
      refine kj_ild7 (pc := 47) C dX1_chanceOfOneNote_47 ?_
      obtain ⟨q6, eq6, h⟩ := of_bind h
      refine kj_callSN1 (pc := 49) C (ct_X9_power eq6) (Nat.le_of_ble_eq_true rfl) mi_X9_power ml_X1_99 rfl as2 (Nat.le_of_ble_eq_true rfl) dX1_chanceOfOneNote_49 ?_
      refine kj_imul (pc := 52) C dX1_chanceOfOneNote_52 ?_
      obtain ⟨x7, ex7, h⟩ := of_lt h
      refine kj_ni ex7 ?_
      refine kj_ist8 (pc := 53) C dX1_chanceOfOneNote_53 (Nat.le_of_ble_eq_true rfl) rfl ?_
      refine kj_ild8 (pc := 55) C dX1_chanceOfOneNote_55 ?_
      refine kj_if_le (pc := 57) C dX1_chanceOfOneNote_57 (tgt := 78) (by decide) (fun c8 => ?_) (fun c8 => ?_)
      · have h := of_pos c8 h
        exact k_X1_chanceOfOneNote_78 C hr hR ih _ _ _ _ _ _ _ _ _ h
      · have h := of_neg c8 h
        refine kj_ald0 (pc := 60) C dX1_chanceOfOneNote_60 ?_
        refine kj_ild6 (pc := 61) C dX1_chanceOfOneNote_61 ?_
        refine kj_ild1 (pc := 63) C dX1_chanceOfOneNote_63 ?_
        obtain ⟨q9, eq9, h⟩ := of_bind h
        refine kj_callV1 (pc := 64) C (ct_X1_richnessOfSome eq9) (Nat.le_of_ble_eq_true rfl) mi_X1_richnessOfSome ml_X1_55 rc_25 rfl rfl ar2 (Nat.le_of_ble_eq_true rfl) dX1_chanceOfOneNote_64 ?_
        refine kj_iconst (pc := 67) C (v := 1) dX1_chanceOfOneNote_67 ci_1 ?_
        refine kj_icmp_gt (pc := 68) C dX1_chanceOfOneNote_68 (tgt := 78) (by decide) (fun c10 => ?_) (fun c10 => ?_)
        · have h := of_pos c10 h
          exact k_X1_chanceOfOneNote_78 C hr hR ih _ _ _ _ _ _ _ _ _ h
        · have h := of_neg c10 h
          refine kj_ild5 (pc := 71) C dX1_chanceOfOneNote_71 ?_
          refine kj_ild8 (pc := 73) C dX1_chanceOfOneNote_73 ?_
          refine kj_iadd (pc := 75) C dX1_chanceOfOneNote_75 ?_
          obtain ⟨x11, ex11, h⟩ := of_lt h
          refine kj_ni ex11 ?_
          refine kj_ist5 (pc := 76) C dX1_chanceOfOneNote_76 (Nat.le_of_ble_eq_true rfl) rfl ?_
          exact k_X1_chanceOfOneNote_78 C hr hR ih _ _ _ _ _ _ _ _ _ h
def f_X1_chanceOfOneNote (v1 : Int32) (v2 : Int32) (v3 : Int32) (M : Mem) : Option (Int32 × Mem) := (f_X4_everybody M).bind (fun q1 => f_X1_chanceOfOneNote_15 100 v1 v2 v3 q1 0 0 M)
set_option maxHeartbeats 4000000 in
set_option maxRecDepth 100000 in
theorem ct_X1_chanceOfOneNote {g : GT} {l : Launch} {v1 : Int32} {v2 : Int32} {v3 : Int32} {M : Mem} {t : Int32 × Mem} (h : f_X1_chanceOfOneNote v1 v2 v3 M = some t) : Ct g l 5 yX1_chanceOfOneNote cX1_chanceOfOneNote 9 (some .int) [.ref (ga g 25 0), .int v1, .int v2, .int v3] M (some (.int t.1)) t.2 := by
  refine ct_of (k := 5) (by decide) (Nat.le_of_ble_eq_true rfl) rfl (fun X C hl hr hR => ?_)
  subst hl
  have C : Cx g X cX1_chanceOfOneNote RX1 9 5 := C
  unfold f_X1_chanceOfOneNote at h
  refine kj_ald0 (pc := 0) C dX1_chanceOfOneNote_0 ?_
  refine gf_X1_21 (pc := 1) C dX1_chanceOfOneNote_1 ?_
  obtain ⟨q1, eq1, h⟩ := of_bind h
  refine kj_callVN1 (pc := 4) C (ct_X4_everybody eq1) (Nat.le_of_ble_eq_true rfl) mi_X4_everybody ml_X1_50 rc_19 rfl rfl ar0 (Nat.le_of_ble_eq_true rfl) dX1_chanceOfOneNote_4 ?_
  refine kj_ist4 (pc := 7) C dX1_chanceOfOneNote_7 (Nat.le_of_ble_eq_true rfl) rfl ?_
  refine kj_iconst (pc := 9) C (v := 0) dX1_chanceOfOneNote_9 ci_0 ?_
  refine kj_ist5 (pc := 10) C dX1_chanceOfOneNote_10 (Nat.le_of_ble_eq_true rfl) rfl ?_
  refine kj_iconst (pc := 12) C (v := 0) dX1_chanceOfOneNote_12 ci_0 ?_
  refine kj_ist6 (pc := 13) C dX1_chanceOfOneNote_13 (Nat.le_of_ble_eq_true rfl) rfl ?_
  exact k_X1_chanceOfOneNote_15 C hr hR 100 _ _ _ _ _ _ _ _ _ h
def f_X2_noteBehind (v1 : Int32) (v2 : Int32) (M : Mem) : Option (Int32 × Mem) := (f_X7_copyFrom 1 0 M).bind (fun q1 => (f_X7_goOn 1 v2 q1).bind (fun q2 => if ¬ (v1 < 0 ∨ 6 ≤ v1.toNatClampNeg) then some (q2.1 1 3 v1.toNatClampNeg, q2) else none))
set_option maxHeartbeats 4000000 in
set_option maxRecDepth 100000 in
theorem ct_X2_noteBehind {g : GT} {l : Launch} {v1 : Int32} {v2 : Int32} {M : Mem} {t : Int32 × Mem} (h : f_X2_noteBehind v1 v2 M = some t) : Ct g l 4 yX2_noteBehind cX2_noteBehind 3 (some .int) [.ref (ga g 24 0), .int v1, .int v2] M (some (.int t.1)) t.2 := by
  refine ct_of (k := 0) (by decide) (Nat.le_of_ble_eq_true rfl) rfl (fun X C hl hr hR => ?_)
  subst hl
  have C : Cx g X cX2_noteBehind RX2 3 4 := C
  unfold f_X2_noteBehind at h
  refine kj_ald0 (pc := 0) C dX2_noteBehind_0 ?_
  refine gf_X2_23 (pc := 1) C dX2_noteBehind_1 ?_
  refine kj_ald0 (pc := 4) C dX2_noteBehind_4 ?_
  refine gf_X2_19 (pc := 5) C dX2_noteBehind_5 ?_
  obtain ⟨q1, eq1, h⟩ := of_bind h
  refine kj_callVN0 (pc := 8) C (ct_X7_copyFrom h18_1 h18_0 eq1) (Nat.le_of_ble_eq_true rfl) mi_X7_copyFrom ml_X2_26 (rc_st h18_1) rfl rfl ar1 (Nat.le_of_ble_eq_true rfl) dX2_noteBehind_8 ?_
  refine kj_ald0 (pc := 11) C dX2_noteBehind_11 ?_
  refine gf_X2_23 (pc := 12) C dX2_noteBehind_12 ?_
  refine kj_ild2 (pc := 15) C dX2_noteBehind_15 ?_
  obtain ⟨q2, eq2, h⟩ := of_bind h
  refine kj_callVN0 (pc := 16) C (ct_X7_goOn h18_1 eq2) (Nat.le_of_ble_eq_true rfl) mi_X7_goOn ml_X2_32 (rc_st h18_1) rfl rfl ar1 (Nat.le_of_ble_eq_true rfl) dX2_noteBehind_16 ?_
  refine kj_ald0 (pc := 19) C dX2_noteBehind_19 ?_
  refine gf_X2_23 (pc := 20) C dX2_noteBehind_20 ?_
  refine gf_X2_36 (pc := 23) C h18_1 dX2_noteBehind_23 ?_
  refine kj_ild1 (pc := 26) C dX2_noteBehind_26 ?_
  obtain ⟨c3, h⟩ := of_gd h
  refine kj_iald2 (pc := 27) C (ia_st h18_1 ⟨by decide, by decide⟩) c3 dX2_noteBehind_27 ?_
  cases h
  exact kj_iret (pc := 28) C hr hR dX2_noteBehind_28
def f_X2_richnessBehind (v1 : Int32) (M : Mem) : Option (Int32 × Mem) := (f_X7_copyFrom 1 0 M).bind (fun q1 => (f_X7_goOn 1 v1 q1).bind (fun q2 => (f_X7_richness 1 q2).bind (fun q3 => some (q3, q2))))
set_option maxHeartbeats 4000000 in
set_option maxRecDepth 100000 in
theorem ct_X2_richnessBehind {g : GT} {l : Launch} {v1 : Int32} {M : Mem} {t : Int32 × Mem} (h : f_X2_richnessBehind v1 M = some t) : Ct g l 4 yX2_richnessBehind cX2_richnessBehind 2 (some .int) [.ref (ga g 24 0), .int v1] M (some (.int t.1)) t.2 := by
  refine ct_of (k := 0) (by decide) (Nat.le_of_ble_eq_true rfl) rfl (fun X C hl hr hR => ?_)
  subst hl
  have C : Cx g X cX2_richnessBehind RX2 2 4 := C
  unfold f_X2_richnessBehind at h
  refine kj_ald0 (pc := 0) C dX2_richnessBehind_0 ?_
  refine gf_X2_23 (pc := 1) C dX2_richnessBehind_1 ?_
  refine kj_ald0 (pc := 4) C dX2_richnessBehind_4 ?_
  refine gf_X2_19 (pc := 5) C dX2_richnessBehind_5 ?_
  obtain ⟨q1, eq1, h⟩ := of_bind h
  refine kj_callVN0 (pc := 8) C (ct_X7_copyFrom h18_1 h18_0 eq1) (Nat.le_of_ble_eq_true rfl) mi_X7_copyFrom ml_X2_26 (rc_st h18_1) rfl rfl ar1 (Nat.le_of_ble_eq_true rfl) dX2_richnessBehind_8 ?_
  refine kj_ald0 (pc := 11) C dX2_richnessBehind_11 ?_
  refine gf_X2_23 (pc := 12) C dX2_richnessBehind_12 ?_
  refine kj_ild1 (pc := 15) C dX2_richnessBehind_15 ?_
  obtain ⟨q2, eq2, h⟩ := of_bind h
  refine kj_callVN0 (pc := 16) C (ct_X7_goOn h18_1 eq2) (Nat.le_of_ble_eq_true rfl) mi_X7_goOn ml_X2_32 (rc_st h18_1) rfl rfl ar1 (Nat.le_of_ble_eq_true rfl) dX2_richnessBehind_16 ?_
  refine kj_ald0 (pc := 19) C dX2_richnessBehind_19 ?_
  refine gf_X2_23 (pc := 20) C dX2_richnessBehind_20 ?_
  obtain ⟨q3, eq3, h⟩ := of_bind h
  refine kj_callVN1 (pc := 23) C (ct_X7_richness h18_1 eq3) (Nat.le_of_ble_eq_true rfl) mi_X7_richness ml_X2_39 (rc_st h18_1) rfl rfl ar0 (Nat.le_of_ble_eq_true rfl) dX2_richnessBehind_23 ?_
  cases h
  exact kj_iret (pc := 26) C hr hR dX2_richnessBehind_26
def f_X7_notesAsNumber_32 (o : Nat) (M : Mem) (k4 : Int32 → Int32 → Option (Int32)) (v2 : Int32) (s0 : Int32) (s1 : Int32) : Option (Int32) := lt_ (s0 + s1) (fun x1 => lt_ (v2 + 1) (fun x2 => k4 x1 x2))
set_option maxHeartbeats 4000000 in
set_option maxRecDepth 100000 in
theorem k_X7_notesAsNumber_32 {g : GT} {X : XT} {o : Nat} {M : Mem} {k4 : Int32 → Int32 → Option (Int32)} {t : Int32} (C : Cx g X cX7_notesAsNumber RX7 3 1) (hr : (xt X).sig.returnType = some .int) (hR : Rt g X (some (.int t)) M) (ho : o < 18) (hk4 : ∀ (v1 : Int32) (v2 : Int32), k4 v1 v2 = some t → Kj g X 3 4 [some (.ref (ga g o 0)), some (.int v1), some (.int v2)] [] M) : ∀ (v2 : Int32) (s0 : Int32) (s1 : Int32) (w1 : Option Value), f_X7_notesAsNumber_32 o M k4 v2 s0 s1 = some t → Kj g X 3 32 [some (.ref (ga g o 0)), w1, some (.int v2)] [.int s1, .int s0] M := by
  intro v2 s0 s1 w1 h
  unfold f_X7_notesAsNumber_32 at h
  refine kj_iadd (pc := 32) C dX7_notesAsNumber_32 ?_
  obtain ⟨x1, ex1, h⟩ := of_lt h
  refine kj_ni ex1 ?_
  refine kj_ist1 (pc := 33) C dX7_notesAsNumber_33 (Nat.le_of_ble_eq_true rfl) rfl ?_
  obtain ⟨x2, ex2, h⟩ := of_lt h
  refine kj_iinc2 (pc := 34) C (v := x2) dX7_notesAsNumber_34 (Nat.le_of_ble_eq_true rfl) rfl (by rw [ex2, ci_1]) ?_
  refine kj_goto (pc := 37) C dX7_notesAsNumber_37 (tgt := 4) (by decide) ?_
  exact hk4 _ _ h
def f_X7_notesAsNumber_4 (o : Nat) (M : Mem) (n : Nat) (v1 : Int32) (v2 : Int32) : Option (Int32) := match n with
  | 0 => none
  | n + 1 => if 6 ≤ v2 then some v1 else (f_X7_isThere o v2 M).bind (fun q2 => if q2 = 0 then f_X7_notesAsNumber_32 o M (f_X7_notesAsNumber_4 o M n) v2 (v1 * (10 : Int32)) 0 else if ¬ (v2 < 0 ∨ 6 ≤ v2.toNatClampNeg) then f_X7_notesAsNumber_32 o M (f_X7_notesAsNumber_4 o M n) v2 (v1 * (10 : Int32)) (M.1 o 3 v2.toNatClampNeg) else none)
set_option maxHeartbeats 4000000 in
set_option maxRecDepth 100000 in
theorem k_X7_notesAsNumber_4 {g : GT} {X : XT} {o : Nat} {M : Mem} {t : Int32} (C : Cx g X cX7_notesAsNumber RX7 3 1) (hr : (xt X).sig.returnType = some .int) (hR : Rt g X (some (.int t)) M) (ho : o < 18) (n : Nat) : ∀ (v1 : Int32) (v2 : Int32), f_X7_notesAsNumber_4 o M n v1 v2 = some t → Kj g X 3 4 [some (.ref (ga g o 0)), some (.int v1), some (.int v2)] [] M := by
  induction n with
  | zero => intro v1 v2 h; rw [f_X7_notesAsNumber_4] at h; cases h
  | succ n ih =>
    intro v1 v2 h
    rw [f_X7_notesAsNumber_4] at h
    refine kj_ild2 (pc := 4) C dX7_notesAsNumber_4 ?_
    refine kj_bipush (pc := 5) C (v := 6) dX7_notesAsNumber_5 cb_6 ?_
    refine kj_icmp_ge (pc := 7) C dX7_notesAsNumber_7 (tgt := 40) (by decide) (fun c1 => ?_) (fun c1 => ?_)
    · have h := of_pos c1 h
      refine kj_ild1 (pc := 40) C dX7_notesAsNumber_40 ?_
      cases h
      exact kj_iret (pc := 41) C hr hR dX7_notesAsNumber_41
    · have h := of_neg c1 h
      refine kj_ild1 (pc := 10) C dX7_notesAsNumber_10 ?_
      refine kj_bipush (pc := 11) C (v := 10) dX7_notesAsNumber_11 cb_10 ?_
      refine kj_imul (pc := 13) C dX7_notesAsNumber_13 ?_
      refine kj_ald0 (pc := 14) C dX7_notesAsNumber_14 ?_
      refine kj_ild2 (pc := 15) C dX7_notesAsNumber_15 ?_
      obtain ⟨q2, eq2, h⟩ := of_bind h
      refine kj_callV1 (pc := 16) C (ct_X7_isThere ho eq2) (Nat.le_of_ble_eq_true rfl) mi_X7_isThere ml_X7_76 (rc_st ho) rfl rfl ar1 (Nat.le_of_ble_eq_true rfl) dX7_notesAsNumber_16 ?_
      refine kj_if_eq (pc := 19) C dX7_notesAsNumber_19 (tgt := 31) (by decide) (fun c3 => ?_) (fun c3 => ?_)
      · have h := of_pos c3 h
        refine kj_iconst (pc := 31) C (v := 0) dX7_notesAsNumber_31 ci_0 ?_
        exact k_X7_notesAsNumber_32 C hr hR ho ih _ _ _ _ h
      · have h := of_neg c3 h
        refine kj_ald0 (pc := 22) C dX7_notesAsNumber_22 ?_
        refine gf_X7_18 (pc := 23) C ho dX7_notesAsNumber_23 ?_
        refine kj_ild2 (pc := 26) C dX7_notesAsNumber_26 ?_
        obtain ⟨c4, h⟩ := of_gd h
        refine kj_iald2 (pc := 27) C (ia_st ho ⟨by decide, by decide⟩) c4 dX7_notesAsNumber_27 ?_
        refine kj_goto (pc := 28) C dX7_notesAsNumber_28 (tgt := 32) (by decide) ?_
        exact k_X7_notesAsNumber_32 C hr hR ho ih _ _ _ _ h
def f_X7_notesAsNumber (o : Nat) (M : Mem) : Option (Int32) := f_X7_notesAsNumber_4 o M 100 0 0
set_option maxHeartbeats 4000000 in
set_option maxRecDepth 100000 in
theorem ct_X7_notesAsNumber {g : GT} {l : Launch} {o : Nat} {M : Mem} {t : Int32} (ho : o < 18) (h : f_X7_notesAsNumber o M = some t) : Ct g l 1 yX7_notesAsNumber cX7_notesAsNumber 3 (some .int) [.ref (ga g o 0)] M (some (.int t)) M := by
  refine ct_of (k := 2) (by decide) (Nat.le_of_ble_eq_true rfl) rfl (fun X C hl hr hR => ?_)
  subst hl
  have C : Cx g X cX7_notesAsNumber RX7 3 1 := C
  unfold f_X7_notesAsNumber at h
  refine kj_iconst (pc := 0) C (v := 0) dX7_notesAsNumber_0 ci_0 ?_
  refine kj_ist1 (pc := 1) C dX7_notesAsNumber_1 (Nat.le_of_ble_eq_true rfl) rfl ?_
  refine kj_iconst (pc := 2) C (v := 0) dX7_notesAsNumber_2 ci_0 ?_
  refine kj_ist2 (pc := 3) C dX7_notesAsNumber_3 (Nat.le_of_ble_eq_true rfl) rfl ?_
  exact k_X7_notesAsNumber_4 C hr hR ho 100 _ _ h
def f_X2_firstReturn_90 (s0 : Int32) (M : Mem) : Option (Int32 × Mem) := some (s0, M)
set_option maxHeartbeats 4000000 in
set_option maxRecDepth 100000 in
theorem k_X2_firstReturn_90 {g : GT} {X : XT} {t : Int32 × Mem} (C : Cx g X cX2_firstReturn RX2 4 4) (hr : (xt X).sig.returnType = some .int) (hR : Rt g X (some (.int t.1)) t.2) : ∀ (s0 : Int32) (M : Mem) (w0 w1 w2 w3 : Option Value), f_X2_firstReturn_90 s0 M = some t → Kj g X 4 90 [w0, w1, w2, w3] [.int s0] M := by
  intro s0 M w0 w1 w2 w3 h
  unfold f_X2_firstReturn_90 at h
  cases h
  exact kj_iret (pc := 90) C hr hR dX2_firstReturn_90
def f_X2_firstReturn_58 (k48 : Int32 → Int32 → Mem → Option (Int32 × Mem)) (n : Nat) (v1 : Int32) (v2 : Int32) (v3 : Int32) (M : Mem) : Option (Int32 × Mem) := match n with
  | 0 => none
  | n + 1 => if 60 < v3 then lt_ (v2 + 1) (fun x2 => k48 v1 x2 M) else if ¬ (v2 < 0 ∨ 61 ≤ v2.toNatClampNeg) then if ¬ (v3 < 0 ∨ 61 ≤ v3.toNatClampNeg) then if (M.1 24 1 v2.toNatClampNeg) = (M.1 24 1 v3.toNatClampNeg) then if v1 = 0 then f_X2_firstReturn_90 v2 M else f_X2_firstReturn_90 (v3 - v2) M else lt_ (v3 + 1) (fun x6 => f_X2_firstReturn_58 k48 n v1 v2 x6 M) else none else none
set_option maxHeartbeats 4000000 in
set_option maxRecDepth 100000 in
theorem k_X2_firstReturn_58 {g : GT} {X : XT} {k48 : Int32 → Int32 → Mem → Option (Int32 × Mem)} {t : Int32 × Mem} (C : Cx g X cX2_firstReturn RX2 4 4) (hr : (xt X).sig.returnType = some .int) (hR : Rt g X (some (.int t.1)) t.2) (hk48 : ∀ (v1 : Int32) (v2 : Int32) (M : Mem) (w3 : Option Value), k48 v1 v2 M = some t → Kj g X 4 48 [some (.ref (ga g 24 0)), some (.int v1), some (.int v2), w3] [] M) (n : Nat) : ∀ (v1 : Int32) (v2 : Int32) (v3 : Int32) (M : Mem), f_X2_firstReturn_58 k48 n v1 v2 v3 M = some t → Kj g X 4 58 [some (.ref (ga g 24 0)), some (.int v1), some (.int v2), some (.int v3)] [] M := by
  induction n with
  | zero => intro v1 v2 v3 M h; rw [f_X2_firstReturn_58] at h; cases h
  | succ n ih =>
    intro v1 v2 v3 M h
    rw [f_X2_firstReturn_58] at h
    refine kj_ild3 (pc := 58) C dX2_firstReturn_58 ?_
    refine kj_bipush (pc := 59) C (v := 60) dX2_firstReturn_59 cb_60 ?_
    refine kj_icmp_gt (pc := 61) C dX2_firstReturn_61 (tgt := 97) (by decide) (fun c1 => ?_) (fun c1 => ?_)
    · have h := of_pos c1 h
      obtain ⟨x2, ex2, h⟩ := of_lt h
      refine kj_iinc2 (pc := 97) C (v := x2) dX2_firstReturn_97 (Nat.le_of_ble_eq_true rfl) rfl (by rw [ex2, ci_1]) ?_
      refine kj_goto (pc := 100) C dX2_firstReturn_100 (tgt := 48) (by decide) ?_
      exact hk48 _ _ _ _ h
    · have h := of_neg c1 h
      refine kj_ald0 (pc := 64) C dX2_firstReturn_64 ?_
      refine gf_X2_9 (pc := 65) C dX2_firstReturn_65 ?_
      refine kj_ild2 (pc := 68) C dX2_firstReturn_68 ?_
      obtain ⟨c3, h⟩ := of_gd h
      refine kj_iald2 (pc := 69) C ia_24_1 c3 dX2_firstReturn_69 ?_
      refine kj_ald0 (pc := 70) C dX2_firstReturn_70 ?_
      refine gf_X2_9 (pc := 71) C dX2_firstReturn_71 ?_
      refine kj_ild3 (pc := 74) C dX2_firstReturn_74 ?_
      obtain ⟨c4, h⟩ := of_gd h
      refine kj_iald2 (pc := 75) C ia_24_1 c4 dX2_firstReturn_75 ?_
      refine kj_icmp_ne (pc := 76) C dX2_firstReturn_76 (tgt := 91) (by decide) (fun c5 => ?_) (fun c5 => ?_)
      · have h := of_neg c5 h
        obtain ⟨x6, ex6, h⟩ := of_lt h
        refine kj_iinc3 (pc := 91) C (v := x6) dX2_firstReturn_91 (Nat.le_of_ble_eq_true rfl) rfl (by rw [ex6, ci_1]) ?_
        refine kj_goto (pc := 94) C dX2_firstReturn_94 (tgt := 58) (by decide) ?_
        exact ih _ _ _ _ h
      · have h := of_pos c5 h
        refine kj_ild1 (pc := 79) C dX2_firstReturn_79 ?_
        refine kj_if_eq (pc := 80) C dX2_firstReturn_80 (tgt := 89) (by decide) (fun c7 => ?_) (fun c7 => ?_)
        · have h := of_pos c7 h
          refine kj_ild2 (pc := 89) C dX2_firstReturn_89 ?_
          exact k_X2_firstReturn_90 C hr hR _ _ _ _ _ _ h
        · have h := of_neg c7 h
          refine kj_ild3 (pc := 83) C dX2_firstReturn_83 ?_
          refine kj_ild2 (pc := 84) C dX2_firstReturn_84 ?_
          refine kj_isub (pc := 85) C dX2_firstReturn_85 ?_
          refine kj_goto (pc := 86) C dX2_firstReturn_86 (tgt := 90) (by decide) ?_
          exact k_X2_firstReturn_90 C hr hR _ _ _ _ _ _ h
def f_X2_firstReturn_48 (n : Nat) (v1 : Int32) (v2 : Int32) (M : Mem) : Option (Int32 × Mem) := match n with
  | 0 => none
  | n + 1 => if 60 ≤ v2 then some (((-9) : Int32), M) else lt_ (v2 + (1 : Int32)) (fun x2 => f_X2_firstReturn_58 (f_X2_firstReturn_48 n) 100 v1 v2 x2 M)
set_option maxHeartbeats 4000000 in
set_option maxRecDepth 100000 in
theorem k_X2_firstReturn_48 {g : GT} {X : XT} {t : Int32 × Mem} (C : Cx g X cX2_firstReturn RX2 4 4) (hr : (xt X).sig.returnType = some .int) (hR : Rt g X (some (.int t.1)) t.2) (n : Nat) : ∀ (v1 : Int32) (v2 : Int32) (M : Mem) (w3 : Option Value), f_X2_firstReturn_48 n v1 v2 M = some t → Kj g X 4 48 [some (.ref (ga g 24 0)), some (.int v1), some (.int v2), w3] [] M := by
  induction n with
  | zero => intro v1 v2 M w3 h; rw [f_X2_firstReturn_48] at h; cases h
  | succ n ih =>
    intro v1 v2 M w3 h
    rw [f_X2_firstReturn_48] at h
    refine kj_ild2 (pc := 48) C dX2_firstReturn_48 ?_
    refine kj_bipush (pc := 49) C (v := 60) dX2_firstReturn_49 cb_60 ?_
    refine kj_icmp_ge (pc := 51) C dX2_firstReturn_51 (tgt := 103) (by decide) (fun c1 => ?_) (fun c1 => ?_)
    · have h := of_pos c1 h
      refine kj_bipush (pc := 103) C (v := (-9)) dX2_firstReturn_103 cb_m9 ?_
      cases h
      exact kj_iret (pc := 105) C hr hR dX2_firstReturn_105
    · have h := of_neg c1 h
      refine kj_ild2 (pc := 54) C dX2_firstReturn_54 ?_
      refine kj_iconst (pc := 55) C (v := 1) dX2_firstReturn_55 ci_1 ?_
      refine kj_iadd (pc := 56) C dX2_firstReturn_56 ?_
      obtain ⟨x2, ex2, h⟩ := of_lt h
      refine kj_ni ex2 ?_
      refine kj_ist3 (pc := 57) C dX2_firstReturn_57 (Nat.le_of_ble_eq_true rfl) rfl ?_
      exact k_X2_firstReturn_58 C hr hR ih 100 _ _ _ _ h
def f_X2_firstReturn_13 (n : Nat) (v1 : Int32) (v2 : Int32) (M : Mem) : Option (Int32 × Mem) := match n with
  | 0 => none
  | n + 1 => if 60 < v2 then f_X2_firstReturn_48 100 v1 0 M else (f_X7_notesAsNumber 1 M).bind (fun q2 => if ¬ (v2 < 0 ∨ 61 ≤ v2.toNatClampNeg) then lt_ (sw M 24 1 v2.toNatClampNeg q2) (fun M4 => (f_X7_goOn 1 1 M4).bind (fun q5 => lt_ (v2 + 1) (fun x6 => f_X2_firstReturn_13 n v1 x6 q5))) else none)
set_option maxHeartbeats 4000000 in
set_option maxRecDepth 100000 in
theorem k_X2_firstReturn_13 {g : GT} {X : XT} {t : Int32 × Mem} (C : Cx g X cX2_firstReturn RX2 4 4) (hr : (xt X).sig.returnType = some .int) (hR : Rt g X (some (.int t.1)) t.2) (n : Nat) : ∀ (v1 : Int32) (v2 : Int32) (M : Mem) (w3 : Option Value), f_X2_firstReturn_13 n v1 v2 M = some t → Kj g X 4 13 [some (.ref (ga g 24 0)), some (.int v1), some (.int v2), w3] [] M := by
  induction n with
  | zero => intro v1 v2 M w3 h; rw [f_X2_firstReturn_13] at h; cases h
  | succ n ih =>
    intro v1 v2 M w3 h
    rw [f_X2_firstReturn_13] at h
    refine kj_ild2 (pc := 13) C dX2_firstReturn_13 ?_
    refine kj_bipush (pc := 14) C (v := 60) dX2_firstReturn_14 cb_60 ?_
    refine kj_icmp_gt (pc := 16) C dX2_firstReturn_16 (tgt := 46) (by decide) (fun c1 => ?_) (fun c1 => ?_)
    · have h := of_pos c1 h
      refine kj_iconst (pc := 46) C (v := 0) dX2_firstReturn_46 ci_0 ?_
      refine kj_ist2 (pc := 47) C dX2_firstReturn_47 (Nat.le_of_ble_eq_true rfl) rfl ?_
      exact k_X2_firstReturn_48 C hr hR 100 _ _ _ _ h
    · have h := of_neg c1 h
      refine kj_ald0 (pc := 19) C dX2_firstReturn_19 ?_
      refine gf_X2_9 (pc := 20) C dX2_firstReturn_20 ?_
      refine kj_ild2 (pc := 23) C dX2_firstReturn_23 ?_
      refine kj_ald0 (pc := 24) C dX2_firstReturn_24 ?_
      refine gf_X2_23 (pc := 25) C dX2_firstReturn_25 ?_
      obtain ⟨q2, eq2, h⟩ := of_bind h
      refine kj_callVN1 (pc := 28) C (ct_X7_notesAsNumber h18_1 eq2) (Nat.le_of_ble_eq_true rfl) mi_X7_notesAsNumber ml_X2_43 (rc_st h18_1) rfl rfl ar0 (Nat.le_of_ble_eq_true rfl) dX2_firstReturn_28 ?_
      obtain ⟨c3, h⟩ := of_gd h
      obtain ⟨M4, eM4, h⟩ := of_lt h
      refine kj_iast2 (pc := 31) C ia_24_1 c3 dX2_firstReturn_31 ?_
      refine kj_nM eM4 ?_
      refine kj_ald0 (pc := 32) C dX2_firstReturn_32 ?_
      refine gf_X2_23 (pc := 33) C dX2_firstReturn_33 ?_
      refine kj_iconst (pc := 36) C (v := 1) dX2_firstReturn_36 ci_1 ?_
      obtain ⟨q5, eq5, h⟩ := of_bind h
      refine kj_callVN0 (pc := 37) C (ct_X7_goOn h18_1 eq5) (Nat.le_of_ble_eq_true rfl) mi_X7_goOn ml_X2_32 (rc_st h18_1) rfl rfl ar1 (Nat.le_of_ble_eq_true rfl) dX2_firstReturn_37 ?_
      obtain ⟨x6, ex6, h⟩ := of_lt h
      refine kj_iinc2 (pc := 40) C (v := x6) dX2_firstReturn_40 (Nat.le_of_ble_eq_true rfl) rfl (by rw [ex6, ci_1]) ?_
      refine kj_goto (pc := 43) C dX2_firstReturn_43 (tgt := 13) (by decide) ?_
      exact ih _ _ _ _ h
def f_X2_firstReturn (v1 : Int32) (M : Mem) : Option (Int32 × Mem) := (f_X7_copyFrom 1 0 M).bind (fun q1 => f_X2_firstReturn_13 100 v1 0 q1)
set_option maxHeartbeats 4000000 in
set_option maxRecDepth 100000 in
theorem ct_X2_firstReturn {g : GT} {l : Launch} {v1 : Int32} {M : Mem} {t : Int32 × Mem} (h : f_X2_firstReturn v1 M = some t) : Ct g l 4 yX2_firstReturn cX2_firstReturn 4 (some .int) [.ref (ga g 24 0), .int v1] M (some (.int t.1)) t.2 := by
  refine ct_of (k := 2) (by decide) (Nat.le_of_ble_eq_true rfl) rfl (fun X C hl hr hR => ?_)
  subst hl
  have C : Cx g X cX2_firstReturn RX2 4 4 := C
  unfold f_X2_firstReturn at h
  refine kj_ald0 (pc := 0) C dX2_firstReturn_0 ?_
  refine gf_X2_23 (pc := 1) C dX2_firstReturn_1 ?_
  refine kj_ald0 (pc := 4) C dX2_firstReturn_4 ?_
  refine gf_X2_19 (pc := 5) C dX2_firstReturn_5 ?_
  obtain ⟨q1, eq1, h⟩ := of_bind h
  refine kj_callVN0 (pc := 8) C (ct_X7_copyFrom h18_1 h18_0 eq1) (Nat.le_of_ble_eq_true rfl) mi_X7_copyFrom ml_X2_26 (rc_st h18_1) rfl rfl ar1 (Nat.le_of_ble_eq_true rfl) dX2_firstReturn_8 ?_
  refine kj_iconst (pc := 11) C (v := 0) dX2_firstReturn_11 ci_0 ?_
  refine kj_ist2 (pc := 12) C dX2_firstReturn_12 (Nat.le_of_ble_eq_true rfl) rfl ?_
  exact k_X2_firstReturn_13 C hr hR 100 _ _ _ _ h
def f_X2_firstOneNote_13 (n : Nat) (v1 : Int32) (M : Mem) : Option (Int32 × Mem) := match n with
  | 0 => none
  | n + 1 => if 60 < v1 then some (((-9) : Int32), M) else (f_X7_richness 1 M).bind (fun q2 => if 1 < q2 then (f_X7_goOn 1 1 M).bind (fun q4 => lt_ (v1 + 1) (fun x5 => f_X2_firstOneNote_13 n x5 q4)) else some (v1, M))
set_option maxHeartbeats 4000000 in
set_option maxRecDepth 100000 in
theorem k_X2_firstOneNote_13 {g : GT} {X : XT} {t : Int32 × Mem} (C : Cx g X cX2_firstOneNote RX2 2 4) (hr : (xt X).sig.returnType = some .int) (hR : Rt g X (some (.int t.1)) t.2) (n : Nat) : ∀ (v1 : Int32) (M : Mem), f_X2_firstOneNote_13 n v1 M = some t → Kj g X 2 13 [some (.ref (ga g 24 0)), some (.int v1)] [] M := by
  induction n with
  | zero => intro v1 M h; rw [f_X2_firstOneNote_13] at h; cases h
  | succ n ih =>
    intro v1 M h
    rw [f_X2_firstOneNote_13] at h
    refine kj_ild1 (pc := 13) C dX2_firstOneNote_13 ?_
    refine kj_bipush (pc := 14) C (v := 60) dX2_firstOneNote_14 cb_60 ?_
    refine kj_icmp_gt (pc := 16) C dX2_firstOneNote_16 (tgt := 46) (by decide) (fun c1 => ?_) (fun c1 => ?_)
    · have h := of_pos c1 h
      refine kj_bipush (pc := 46) C (v := (-9)) dX2_firstOneNote_46 cb_m9 ?_
      cases h
      exact kj_iret (pc := 48) C hr hR dX2_firstOneNote_48
    · have h := of_neg c1 h
      refine kj_ald0 (pc := 19) C dX2_firstOneNote_19 ?_
      refine gf_X2_23 (pc := 20) C dX2_firstOneNote_20 ?_
      obtain ⟨q2, eq2, h⟩ := of_bind h
      refine kj_callVN1 (pc := 23) C (ct_X7_richness h18_1 eq2) (Nat.le_of_ble_eq_true rfl) mi_X7_richness ml_X2_39 (rc_st h18_1) rfl rfl ar0 (Nat.le_of_ble_eq_true rfl) dX2_firstOneNote_23 ?_
      refine kj_iconst (pc := 26) C (v := 1) dX2_firstOneNote_26 ci_1 ?_
      refine kj_icmp_gt (pc := 27) C dX2_firstOneNote_27 (tgt := 32) (by decide) (fun c3 => ?_) (fun c3 => ?_)
      · have h := of_pos c3 h
        refine kj_ald0 (pc := 32) C dX2_firstOneNote_32 ?_
        refine gf_X2_23 (pc := 33) C dX2_firstOneNote_33 ?_
        refine kj_iconst (pc := 36) C (v := 1) dX2_firstOneNote_36 ci_1 ?_
        obtain ⟨q4, eq4, h⟩ := of_bind h
        refine kj_callVN0 (pc := 37) C (ct_X7_goOn h18_1 eq4) (Nat.le_of_ble_eq_true rfl) mi_X7_goOn ml_X2_32 (rc_st h18_1) rfl rfl ar1 (Nat.le_of_ble_eq_true rfl) dX2_firstOneNote_37 ?_
        obtain ⟨x5, ex5, h⟩ := of_lt h
        refine kj_iinc1 (pc := 40) C (v := x5) dX2_firstOneNote_40 (Nat.le_of_ble_eq_true rfl) rfl (by rw [ex5, ci_1]) ?_
        refine kj_goto (pc := 43) C dX2_firstOneNote_43 (tgt := 13) (by decide) ?_
        exact ih _ _ h
      · have h := of_neg c3 h
        refine kj_ild1 (pc := 30) C dX2_firstOneNote_30 ?_
        cases h
        exact kj_iret (pc := 31) C hr hR dX2_firstOneNote_31
def f_X2_firstOneNote (M : Mem) : Option (Int32 × Mem) := (f_X7_copyFrom 1 0 M).bind (fun q1 => f_X2_firstOneNote_13 100 0 q1)
set_option maxHeartbeats 4000000 in
set_option maxRecDepth 100000 in
theorem ct_X2_firstOneNote {g : GT} {l : Launch} {M : Mem} {t : Int32 × Mem} (h : f_X2_firstOneNote M = some t) : Ct g l 4 yX2_firstOneNote cX2_firstOneNote 2 (some .int) [.ref (ga g 24 0)] M (some (.int t.1)) t.2 := by
  refine ct_of (k := 1) (by decide) (Nat.le_of_ble_eq_true rfl) rfl (fun X C hl hr hR => ?_)
  subst hl
  have C : Cx g X cX2_firstOneNote RX2 2 4 := C
  unfold f_X2_firstOneNote at h
  refine kj_ald0 (pc := 0) C dX2_firstOneNote_0 ?_
  refine gf_X2_23 (pc := 1) C dX2_firstOneNote_1 ?_
  refine kj_ald0 (pc := 4) C dX2_firstOneNote_4 ?_
  refine gf_X2_19 (pc := 5) C dX2_firstOneNote_5 ?_
  obtain ⟨q1, eq1, h⟩ := of_bind h
  refine kj_callVN0 (pc := 8) C (ct_X7_copyFrom h18_1 h18_0 eq1) (Nat.le_of_ble_eq_true rfl) mi_X7_copyFrom ml_X2_26 (rc_st h18_1) rfl rfl ar1 (Nat.le_of_ble_eq_true rfl) dX2_firstOneNote_8 ?_
  refine kj_iconst (pc := 11) C (v := 0) dX2_firstOneNote_11 ci_0 ?_
  refine kj_ist1 (pc := 12) C dX2_firstOneNote_12 (Nat.le_of_ble_eq_true rfl) rfl ?_
  exact k_X2_firstOneNote_13 C hr hR 100 _ _ h
