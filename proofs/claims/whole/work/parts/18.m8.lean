def f_X10_mayHave_87 (k5 : Int32 → Int32 → Int32 → Int32 → Mem → Option (Int32 × Mem)) (v1 : Int32) (v2 : Int32) (v4 : Int32) (s0 : Int32) (M : Mem) : Option (Int32 × Mem) := lt_ (v4 + 1) (fun x1 => k5 v1 v2 s0 x1 M)
set_option maxHeartbeats 4000000 in
set_option maxRecDepth 100000 in
theorem k_X10_mayHave_87 {g : GT} {X : XT} {k5 : Int32 → Int32 → Int32 → Int32 → Mem → Option (Int32 × Mem)} {t : Int32 × Mem} (C : Cx g X cX10_mayHave RX10 5 6) (hr : (xt X).sig.returnType = some .boolean) (hR : Rt g X (some (.int t.1)) t.2) (hk5 : ∀ (v1 : Int32) (v2 : Int32) (v3 : Int32) (v4 : Int32) (M : Mem), k5 v1 v2 v3 v4 M = some t → Kj g X 5 5 [some (.ref (ga g 27 0)), some (.int v1), some (.int v2), some (.int v3), some (.int v4)] [] M) : ∀ (v1 : Int32) (v2 : Int32) (v4 : Int32) (s0 : Int32) (M : Mem) (w3 : Option Value), f_X10_mayHave_87 k5 v1 v2 v4 s0 M = some t → Kj g X 5 87 [some (.ref (ga g 27 0)), some (.int v1), some (.int v2), w3, some (.int v4)] [.int s0] M := by
  intro v1 v2 v4 s0 M w3 h
  unfold f_X10_mayHave_87 at h
  refine kj_ist3 (pc := 87) C dX10_mayHave_87 (Nat.le_of_ble_eq_true rfl) rfl ?_
  obtain ⟨x1, ex1, h⟩ := of_lt h
  refine kj_iinc4 (pc := 88) C (v := x1) dX10_mayHave_88 (Nat.le_of_ble_eq_true rfl) rfl (by rw [ex1, ci_1]) ?_
  refine kj_goto (pc := 91) C dX10_mayHave_91 (tgt := 5) (by decide) ?_
  exact hk5 _ _ _ _ _ h
def f_X10_mayHave_86 (k5 : Int32 → Int32 → Int32 → Int32 → Mem → Option (Int32 × Mem)) (v1 : Int32) (v2 : Int32) (v4 : Int32) (M : Mem) : Option (Int32 × Mem) := f_X10_mayHave_87 k5 v1 v2 v4 0 M
set_option maxHeartbeats 4000000 in
set_option maxRecDepth 100000 in
theorem k_X10_mayHave_86 {g : GT} {X : XT} {k5 : Int32 → Int32 → Int32 → Int32 → Mem → Option (Int32 × Mem)} {t : Int32 × Mem} (C : Cx g X cX10_mayHave RX10 5 6) (hr : (xt X).sig.returnType = some .boolean) (hR : Rt g X (some (.int t.1)) t.2) (hk5 : ∀ (v1 : Int32) (v2 : Int32) (v3 : Int32) (v4 : Int32) (M : Mem), k5 v1 v2 v3 v4 M = some t → Kj g X 5 5 [some (.ref (ga g 27 0)), some (.int v1), some (.int v2), some (.int v3), some (.int v4)] [] M) : ∀ (v1 : Int32) (v2 : Int32) (v4 : Int32) (M : Mem) (w3 : Option Value), f_X10_mayHave_86 k5 v1 v2 v4 M = some t → Kj g X 5 86 [some (.ref (ga g 27 0)), some (.int v1), some (.int v2), w3, some (.int v4)] [] M := by
  intro v1 v2 v4 M w3 h
  unfold f_X10_mayHave_86 at h
  refine kj_iconst (pc := 86) C (v := 0) dX10_mayHave_86 ci_0 ?_
  exact k_X10_mayHave_87 C hr hR hk5 _ _ _ _ _ _ h
def f_X10_mayHave_82 (k5 : Int32 → Int32 → Int32 → Int32 → Mem → Option (Int32 × Mem)) (v1 : Int32) (v2 : Int32) (v4 : Int32) (M : Mem) : Option (Int32 × Mem) := f_X10_mayHave_87 k5 v1 v2 v4 1 M
set_option maxHeartbeats 4000000 in
set_option maxRecDepth 100000 in
theorem k_X10_mayHave_82 {g : GT} {X : XT} {k5 : Int32 → Int32 → Int32 → Int32 → Mem → Option (Int32 × Mem)} {t : Int32 × Mem} (C : Cx g X cX10_mayHave RX10 5 6) (hr : (xt X).sig.returnType = some .boolean) (hR : Rt g X (some (.int t.1)) t.2) (hk5 : ∀ (v1 : Int32) (v2 : Int32) (v3 : Int32) (v4 : Int32) (M : Mem), k5 v1 v2 v3 v4 M = some t → Kj g X 5 5 [some (.ref (ga g 27 0)), some (.int v1), some (.int v2), some (.int v3), some (.int v4)] [] M) : ∀ (v1 : Int32) (v2 : Int32) (v4 : Int32) (M : Mem) (w3 : Option Value), f_X10_mayHave_82 k5 v1 v2 v4 M = some t → Kj g X 5 82 [some (.ref (ga g 27 0)), some (.int v1), some (.int v2), w3, some (.int v4)] [] M := by
  intro v1 v2 v4 M w3 h
  unfold f_X10_mayHave_82 at h
  refine kj_iconst (pc := 82) C (v := 1) dX10_mayHave_82 ci_1 ?_
  refine kj_goto (pc := 83) C dX10_mayHave_83 (tgt := 87) (by decide) ?_
  exact k_X10_mayHave_87 C hr hR hk5 _ _ _ _ _ _ h
def f_X10_mayHave_5 (n : Nat) (v1 : Int32) (v2 : Int32) (v3 : Int32) (v4 : Int32) (M : Mem) : Option (Int32 × Mem) := match n with
  | 0 => none
  | n + 1 => if (M.1 27 0 18) ≤ v4 then if v3 = 0 ∨ v3 = 1 then some (v3, M) else none else (f_X10_layTrial M).bind (fun q3 => lt_ ((26 : Int32) + v1) (fun x5 => if ¬ (x5 < 0 ∨ 40 ≤ x5.toNatClampNeg) then lt_ (sw q3 27 4 x5.toNatClampNeg v2) (fun M6 => if ¬ (v4 < 0 ∨ 6 ≤ v4.toNatClampNeg) then (f_X10_goOn (M6.1 27 11 v4.toNatClampNeg) M6).bind (fun q8 => if v3 = 0 then f_X10_mayHave_86 (f_X10_mayHave_5 n) v1 v2 v4 q8 else if ¬ (v4 < 0 ∨ 6 ≤ v4.toNatClampNeg) then (f_X10_isSinger (q8.1 27 10 v4.toNatClampNeg) q8).bind (fun q11 => if q11 = 0 then f_X10_mayHave_82 (f_X10_mayHave_5 n) v1 v2 v4 q8 else if ¬ (v4 < 0 ∨ 6 ≤ v4.toNatClampNeg) then lt_ ((32 : Int32) + (q8.1 27 10 v4.toNatClampNeg)) (fun x15 => if ¬ (x15 < 0 ∨ 40 ≤ x15.toNatClampNeg) then if ¬ (v4 < 0 ∨ 6 ≤ v4.toNatClampNeg) then if (q8.1 27 4 x15.toNatClampNeg) = (q8.1 27 12 v4.toNatClampNeg) then f_X10_mayHave_82 (f_X10_mayHave_5 n) v1 v2 v4 q8 else f_X10_mayHave_86 (f_X10_mayHave_5 n) v1 v2 v4 q8 else none else none) else none) else none) else none) else none))
set_option maxHeartbeats 4000000 in
set_option maxRecDepth 100000 in
theorem k_X10_mayHave_5 {g : GT} {X : XT} {t : Int32 × Mem} (C : Cx g X cX10_mayHave RX10 5 6) (hr : (xt X).sig.returnType = some .boolean) (hR : Rt g X (some (.int t.1)) t.2) (n : Nat) : ∀ (v1 : Int32) (v2 : Int32) (v3 : Int32) (v4 : Int32) (M : Mem), f_X10_mayHave_5 n v1 v2 v3 v4 M = some t → Kj g X 5 5 [some (.ref (ga g 27 0)), some (.int v1), some (.int v2), some (.int v3), some (.int v4)] [] M := by
  induction n with
  | zero => intro v1 v2 v3 v4 M h; rw [f_X10_mayHave_5] at h; cases h
  | succ n ih =>
    intro v1 v2 v3 v4 M h
    rw [f_X10_mayHave_5] at h
    refine kj_ild4 (pc := 5) C dX10_mayHave_5 ?_
    refine kj_ald0 (pc := 7) C dX10_mayHave_7 ?_
    refine gf_X10_187 (pc := 8) C dX10_mayHave_8 ?_
    refine kj_icmp_ge (pc := 11) C dX10_mayHave_11 (tgt := 94) (by decide) (fun c1 => ?_) (fun c1 => ?_)
    · have h := of_pos c1 h
      refine kj_ild3 (pc := 94) C dX10_mayHave_94 ?_
      obtain ⟨c2, h⟩ := of_gd h
      cases h
      exact kj_zret (pc := 95) C hr c2 hR dX10_mayHave_95
    · have h := of_neg c1 h
      refine kj_ald0 (pc := 14) C dX10_mayHave_14 ?_
      obtain ⟨q3, eq3, h⟩ := of_bind h
      refine kj_callV0 (pc := 15) C (ct_X10_layTrial eq3) (Nat.le_of_ble_eq_true rfl) mi_X10_layTrial ml_X10_155 rc_27 rfl rfl ar0 (Nat.le_of_ble_eq_true rfl) dX10_mayHave_15 ?_
      refine kj_ald0 (pc := 18) C dX10_mayHave_18 ?_
      refine gf_X10_19 (pc := 19) C dX10_mayHave_19 ?_
      refine kj_bipush (pc := 22) C (v := 26) dX10_mayHave_22 cb_26 ?_
      refine kj_ild1 (pc := 24) C dX10_mayHave_24 ?_
      refine kj_iadd (pc := 25) C dX10_mayHave_25 ?_
      refine kj_ild2 (pc := 26) C dX10_mayHave_26 ?_
      obtain ⟨x5, ex5, h⟩ := of_lt h
      refine kj_ni2 ex5 ?_
      obtain ⟨c4, h⟩ := of_gd h
      obtain ⟨M6, eM6, h⟩ := of_lt h
      refine kj_iast2 (pc := 27) C ia_27_4 c4 dX10_mayHave_27 ?_
      refine kj_nM eM6 ?_
      refine kj_ald0 (pc := 28) C dX10_mayHave_28 ?_
      refine kj_ald0 (pc := 29) C dX10_mayHave_29 ?_
      refine gf_X10_44 (pc := 30) C dX10_mayHave_30 ?_
      refine kj_ild4 (pc := 33) C dX10_mayHave_33 ?_
      obtain ⟨c7, h⟩ := of_gd h
      refine kj_iald2 (pc := 35) C ia_27_11 c7 dX10_mayHave_35 ?_
      obtain ⟨q8, eq8, h⟩ := of_bind h
      refine kj_callV0 (pc := 36) C (ct_X10_goOn eq8) (Nat.le_of_ble_eq_true rfl) mi_X10_goOn ml_X10_158 rc_27 rfl rfl ar1 (Nat.le_of_ble_eq_true rfl) dX10_mayHave_36 ?_
      refine kj_ild3 (pc := 39) C dX10_mayHave_39 ?_
      refine kj_if_eq (pc := 40) C dX10_mayHave_40 (tgt := 86) (by decide) (fun c9 => ?_) (fun c9 => ?_)
      · have h := of_pos c9 h
        exact k_X10_mayHave_86 C hr hR ih _ _ _ _ _ h
      · have h := of_neg c9 h
        refine kj_ald0 (pc := 43) C dX10_mayHave_43 ?_
        refine kj_ald0 (pc := 44) C dX10_mayHave_44 ?_
        refine gf_X10_41 (pc := 45) C dX10_mayHave_45 ?_
        refine kj_ild4 (pc := 48) C dX10_mayHave_48 ?_
        obtain ⟨c10, h⟩ := of_gd h
        refine kj_iald2 (pc := 50) C ia_27_10 c10 dX10_mayHave_50 ?_
        obtain ⟨q11, eq11, h⟩ := of_bind h
        refine kj_callV1 (pc := 51) C (ct_X10_isSinger eq11) (Nat.le_of_ble_eq_true rfl) mi_X10_isSinger ml_X10_119 rc_27 rfl rfl ar1 (Nat.le_of_ble_eq_true rfl) dX10_mayHave_51 ?_
        refine kj_if_eq (pc := 54) C dX10_mayHave_54 (tgt := 82) (by decide) (fun c12 => ?_) (fun c12 => ?_)
        · have h := of_pos c12 h
          exact k_X10_mayHave_82 C hr hR ih _ _ _ _ _ h
        · have h := of_neg c12 h
          refine kj_ald0 (pc := 57) C dX10_mayHave_57 ?_
          refine gf_X10_19 (pc := 58) C dX10_mayHave_58 ?_
          refine kj_bipush (pc := 61) C (v := 32) dX10_mayHave_61 cb_32 ?_
          refine kj_ald0 (pc := 63) C dX10_mayHave_63 ?_
          refine gf_X10_41 (pc := 64) C dX10_mayHave_64 ?_
          refine kj_ild4 (pc := 67) C dX10_mayHave_67 ?_
          obtain ⟨c13, h⟩ := of_gd h
          refine kj_iald2 (pc := 69) C ia_27_10 c13 dX10_mayHave_69 ?_
          refine kj_iadd (pc := 70) C dX10_mayHave_70 ?_
          obtain ⟨x15, ex15, h⟩ := of_lt h
          refine kj_ni ex15 ?_
          obtain ⟨c14, h⟩ := of_gd h
          refine kj_iald2 (pc := 71) C ia_27_4 c14 dX10_mayHave_71 ?_
          refine kj_ald0 (pc := 72) C dX10_mayHave_72 ?_
          refine gf_X10_47 (pc := 73) C dX10_mayHave_73 ?_
          refine kj_ild4 (pc := 76) C dX10_mayHave_76 ?_
          obtain ⟨c16, h⟩ := of_gd h
          refine kj_iald2 (pc := 78) C ia_27_12 c16 dX10_mayHave_78 ?_
          refine kj_icmp_ne (pc := 79) C dX10_mayHave_79 (tgt := 86) (by decide) (fun c17 => ?_) (fun c17 => ?_)
          · have h := of_neg c17 h
            exact k_X10_mayHave_86 C hr hR ih _ _ _ _ _ h
          · have h := of_pos c17 h
            exact k_X10_mayHave_82 C hr hR ih _ _ _ _ _ h
def f_X10_mayHave (v1 : Int32) (v2 : Int32) (M : Mem) : Option (Int32 × Mem) := f_X10_mayHave_5 100 v1 v2 1 0 M
set_option maxHeartbeats 4000000 in
set_option maxRecDepth 100000 in
theorem ct_X10_mayHave {g : GT} {l : Launch} {v1 : Int32} {v2 : Int32} {M : Mem} {t : Int32 × Mem} (h : f_X10_mayHave v1 v2 M = some t) : Ct g l 6 yX10_mayHave cX10_mayHave 5 (some .boolean) [.ref (ga g 27 0), .int v1, .int v2] M (some (.int t.1)) t.2 := by
  refine ct_of (k := 2) (by decide) (Nat.le_of_ble_eq_true rfl) rfl (fun X C hl hr hR => ?_)
  subst hl
  have C : Cx g X cX10_mayHave RX10 5 6 := C
  unfold f_X10_mayHave at h
  refine kj_iconst (pc := 0) C (v := 1) dX10_mayHave_0 ci_1 ?_
  refine kj_ist3 (pc := 1) C dX10_mayHave_1 (Nat.le_of_ble_eq_true rfl) rfl ?_
  refine kj_iconst (pc := 2) C (v := 0) dX10_mayHave_2 ci_0 ?_
  refine kj_ist4 (pc := 3) C dX10_mayHave_3 (Nat.le_of_ble_eq_true rfl) rfl ?_
  exact k_X10_mayHave_5 C hr hR 100 _ _ _ _ _ h
def f_X10_had_37 (k14 : Int32 → Int32 → Int32 → Mem → Option (Int32 × Mem)) (v1 : Int32) (v3 : Int32) (s0 : Int32) (s1 : Int32) (M : Mem) : Option (Int32 × Mem) := lt_ (s0 ||| s1) (fun x1 => lt_ (v3 + 1) (fun x2 => k14 v1 x1 x2 M))
set_option maxHeartbeats 4000000 in
set_option maxRecDepth 100000 in
theorem k_X10_had_37 {g : GT} {X : XT} {k14 : Int32 → Int32 → Int32 → Mem → Option (Int32 × Mem)} {t : Int32 × Mem} (C : Cx g X cX10_had RX10 4 7) (hr : (xt X).sig.returnType = some .int) (hR : Rt g X (some (.int t.1)) t.2) (hk14 : ∀ (v1 : Int32) (v2 : Int32) (v3 : Int32) (M : Mem), k14 v1 v2 v3 M = some t → Kj g X 4 14 [some (.ref (ga g 27 0)), some (.int v1), some (.int v2), some (.int v3)] [] M) : ∀ (v1 : Int32) (v3 : Int32) (s0 : Int32) (s1 : Int32) (M : Mem) (w2 : Option Value), f_X10_had_37 k14 v1 v3 s0 s1 M = some t → Kj g X 4 37 [some (.ref (ga g 27 0)), some (.int v1), w2, some (.int v3)] [.int s1, .int s0] M := by
  intro v1 v3 s0 s1 M w2 h
  unfold f_X10_had_37 at h
  refine kj_ior (pc := 37) C dX10_had_37 ?_
  obtain ⟨x1, ex1, h⟩ := of_lt h
  refine kj_ni ex1 ?_
  refine kj_ist2 (pc := 38) C dX10_had_38 (Nat.le_of_ble_eq_true rfl) rfl ?_
  obtain ⟨x2, ex2, h⟩ := of_lt h
  refine kj_iinc3 (pc := 39) C (v := x2) dX10_had_39 (Nat.le_of_ble_eq_true rfl) rfl (by rw [ex2, ci_1]) ?_
  refine kj_goto (pc := 42) C dX10_had_42 (tgt := 14) (by decide) ?_
  exact hk14 _ _ _ _ h
def f_X10_had_14 (n : Nat) (v1 : Int32) (v2 : Int32) (v3 : Int32) (M : Mem) : Option (Int32 × Mem) := match n with
  | 0 => none
  | n + 1 => if 10 ≤ v3 then some (v2, M) else (f_X10_mayHave v1 v3 M).bind (fun q2 => if q2.1 = 0 then f_X10_had_37 (f_X10_had_14 n) v1 v3 v2 0 q2.2 else f_X10_had_37 (f_X10_had_14 n) v1 v3 v2 ((1 : Int32) <<< (v3 &&& 31)) q2.2)
set_option maxHeartbeats 4000000 in
set_option maxRecDepth 100000 in
theorem k_X10_had_14 {g : GT} {X : XT} {t : Int32 × Mem} (C : Cx g X cX10_had RX10 4 7) (hr : (xt X).sig.returnType = some .int) (hR : Rt g X (some (.int t.1)) t.2) (n : Nat) : ∀ (v1 : Int32) (v2 : Int32) (v3 : Int32) (M : Mem), f_X10_had_14 n v1 v2 v3 M = some t → Kj g X 4 14 [some (.ref (ga g 27 0)), some (.int v1), some (.int v2), some (.int v3)] [] M := by
  induction n with
  | zero => intro v1 v2 v3 M h; rw [f_X10_had_14] at h; cases h
  | succ n ih =>
    intro v1 v2 v3 M h
    rw [f_X10_had_14] at h
    refine kj_ild3 (pc := 14) C dX10_had_14 ?_
    refine kj_bipush (pc := 15) C (v := 10) dX10_had_15 cb_10 ?_
    refine kj_icmp_ge (pc := 17) C dX10_had_17 (tgt := 45) (by decide) (fun c1 => ?_) (fun c1 => ?_)
    · have h := of_pos c1 h
      refine kj_ild2 (pc := 45) C dX10_had_45 ?_
      cases h
      exact kj_iret (pc := 46) C hr hR dX10_had_46
    · have h := of_neg c1 h
      refine kj_ild2 (pc := 20) C dX10_had_20 ?_
      refine kj_ald0 (pc := 21) C dX10_had_21 ?_
      refine kj_ild1 (pc := 22) C dX10_had_22 ?_
      refine kj_ild3 (pc := 23) C dX10_had_23 ?_
      obtain ⟨q2, eq2, h⟩ := of_bind h
      refine kj_callV1 (pc := 24) C (ct_X10_mayHave eq2) (Nat.le_of_ble_eq_true rfl) mi_X10_mayHave ml_X10_190 rc_27 rfl rfl ar2 (Nat.le_of_ble_eq_true rfl) dX10_had_24 ?_
      refine kj_if_eq (pc := 27) C dX10_had_27 (tgt := 36) (by decide) (fun c3 => ?_) (fun c3 => ?_)
      · have h := of_pos c3 h
        refine kj_iconst (pc := 36) C (v := 0) dX10_had_36 ci_0 ?_
        exact k_X10_had_37 C hr hR ih _ _ _ _ _ _ h
      · have h := of_neg c3 h
        refine kj_iconst (pc := 30) C (v := 1) dX10_had_30 ci_1 ?_
        refine kj_ild3 (pc := 31) C dX10_had_31 ?_
        refine kj_ishl (pc := 32) C dX10_had_32 ?_
        refine kj_goto (pc := 33) C dX10_had_33 (tgt := 37) (by decide) ?_
        exact k_X10_had_37 C hr hR ih _ _ _ _ _ _ h
def f_X10_had (v1 : Int32) (M : Mem) : Option (Int32 × Mem) := (f_X10_isSinger v1 M).bind (fun q1 => if q1 = 0 then some (((-1) : Int32), M) else f_X10_had_14 100 v1 0 0 M)
set_option maxHeartbeats 4000000 in
set_option maxRecDepth 100000 in
theorem ct_X10_had {g : GT} {l : Launch} {v1 : Int32} {M : Mem} {t : Int32 × Mem} (h : f_X10_had v1 M = some t) : Ct g l 7 yX10_had cX10_had 4 (some .int) [.ref (ga g 27 0), .int v1] M (some (.int t.1)) t.2 := by
  refine ct_of (k := 2) (by decide) (Nat.le_of_ble_eq_true rfl) rfl (fun X C hl hr hR => ?_)
  subst hl
  have C : Cx g X cX10_had RX10 4 7 := C
  unfold f_X10_had at h
  refine kj_ald0 (pc := 0) C dX10_had_0 ?_
  refine kj_ild1 (pc := 1) C dX10_had_1 ?_
  obtain ⟨q1, eq1, h⟩ := of_bind h
  refine kj_callV1 (pc := 2) C (ct_X10_isSinger eq1) (Nat.le_of_ble_eq_true rfl) mi_X10_isSinger ml_X10_119 rc_27 rfl rfl ar1 (Nat.le_of_ble_eq_true rfl) dX10_had_2 ?_
  refine kj_if_ne (pc := 5) C dX10_had_5 (tgt := 10) (by decide) (fun c2 => ?_) (fun c2 => ?_)
  · have h := of_neg c2 h
    refine kj_iconst (pc := 10) C (v := 0) dX10_had_10 ci_0 ?_
    refine kj_ist2 (pc := 11) C dX10_had_11 (Nat.le_of_ble_eq_true rfl) rfl ?_
    refine kj_iconst (pc := 12) C (v := 0) dX10_had_12 ci_0 ?_
    refine kj_ist3 (pc := 13) C dX10_had_13 (Nat.le_of_ble_eq_true rfl) rfl ?_
    exact k_X10_had_14 C hr hR 100 _ _ _ _ h
  · have h := of_pos c2 h
    refine kj_iconst (pc := 8) C (v := (-1)) dX10_had_8 ci_m1 ?_
    cases h
    exact kj_iret (pc := 9) C hr hR dX10_had_9
def f_X10_factorial_4 (M : Mem) (n : Nat) (v0 : Int32) (v1 : Int32) (v2 : Int32) : Option (Int32) := match n with
  | 0 => none
  | n + 1 => if v0 < v2 then some v1 else lt_ (v1 * v2) (fun x2 => lt_ (v2 + 1) (fun x3 => f_X10_factorial_4 M n v0 x2 x3))
set_option maxHeartbeats 4000000 in
set_option maxRecDepth 100000 in
theorem k_X10_factorial_4 {g : GT} {X : XT} {M : Mem} {t : Int32} (C : Cx g X cX10_factorial RX10 3 0) (hr : (xt X).sig.returnType = some .int) (hR : Rt g X (some (.int t)) M) (n : Nat) : ∀ (v0 : Int32) (v1 : Int32) (v2 : Int32), f_X10_factorial_4 M n v0 v1 v2 = some t → Kj g X 3 4 [some (.int v0), some (.int v1), some (.int v2)] [] M := by
  induction n with
  | zero => intro v0 v1 v2 h; rw [f_X10_factorial_4] at h; cases h
  | succ n ih =>
    intro v0 v1 v2 h
    rw [f_X10_factorial_4] at h
    refine kj_ild2 (pc := 4) C dX10_factorial_4 ?_
    refine kj_ild0 (pc := 5) C dX10_factorial_5 ?_
    refine kj_icmp_gt (pc := 6) C dX10_factorial_6 (tgt := 19) (by decide) (fun c1 => ?_) (fun c1 => ?_)
    · have h := of_pos c1 h
      refine kj_ild1 (pc := 19) C dX10_factorial_19 ?_
      cases h
      exact kj_iret (pc := 20) C hr hR dX10_factorial_20
    · have h := of_neg c1 h
      refine kj_ild1 (pc := 9) C dX10_factorial_9 ?_
      refine kj_ild2 (pc := 10) C dX10_factorial_10 ?_
      refine kj_imul (pc := 11) C dX10_factorial_11 ?_
      obtain ⟨x2, ex2, h⟩ := of_lt h
      refine kj_ni ex2 ?_
      refine kj_ist1 (pc := 12) C dX10_factorial_12 (Nat.le_of_ble_eq_true rfl) rfl ?_
      obtain ⟨x3, ex3, h⟩ := of_lt h
      refine kj_iinc2 (pc := 13) C (v := x3) dX10_factorial_13 (Nat.le_of_ble_eq_true rfl) rfl (by rw [ex3, ci_1]) ?_
      refine kj_goto (pc := 16) C dX10_factorial_16 (tgt := 4) (by decide) ?_
      exact ih _ _ _ h
def f_X10_factorial (v0 : Int32) (M : Mem) : Option (Int32) := f_X10_factorial_4 M 100 v0 1 2
set_option maxHeartbeats 4000000 in
set_option maxRecDepth 100000 in
theorem ct_X10_factorial {g : GT} {l : Launch} {v0 : Int32} {M : Mem} {t : Int32} (h : f_X10_factorial v0 M = some t) : Ct g l 0 yX10_factorial cX10_factorial 3 (some .int) [.int v0] M (some (.int t)) M := by
  refine ct_of (k := 2) (by decide) (Nat.le_of_ble_eq_true rfl) rfl (fun X C hl hr hR => ?_)
  subst hl
  have C : Cx g X cX10_factorial RX10 3 0 := C
  unfold f_X10_factorial at h
  refine kj_iconst (pc := 0) C (v := 1) dX10_factorial_0 ci_1 ?_
  refine kj_ist1 (pc := 1) C dX10_factorial_1 (Nat.le_of_ble_eq_true rfl) rfl ?_
  refine kj_iconst (pc := 2) C (v := 2) dX10_factorial_2 ci_2 ?_
  refine kj_ist2 (pc := 3) C dX10_factorial_3 (Nat.le_of_ble_eq_true rfl) rfl ?_
  exact k_X10_factorial_4 C hr hR 100 _ _ _ h
def f_X10_common_13 (M : Mem) (n : Nat) (v2 : Int32) (v3 : Int32) : Option (Int32) := match n with
  | 0 => none
  | n + 1 => if v3 = 0 then some v2 else if ¬ v3 = 0 then lt_ (v2 - v2 / v3 * v3) (fun x3 => f_X10_common_13 M n v3 x3) else none
set_option maxHeartbeats 4000000 in
set_option maxRecDepth 100000 in
theorem k_X10_common_13 {g : GT} {X : XT} {M : Mem} {t : Int32} (C : Cx g X cX10_common RX10 5 0) (hr : (xt X).sig.returnType = some .int) (hR : Rt g X (some (.int t)) M) (n : Nat) : ∀ (v2 : Int32) (v3 : Int32) (w0 w1 w4 : Option Value), f_X10_common_13 M n v2 v3 = some t → Kj g X 5 13 [w0, w1, some (.int v2), some (.int v3), w4] [] M := by
  induction n with
  | zero => intro v2 v3 w0 w1 w4 h; rw [f_X10_common_13] at h; cases h
  | succ n ih =>
    intro v2 v3 w0 w1 w4 h
    rw [f_X10_common_13] at h
    refine kj_ild3 (pc := 13) C dX10_common_13 ?_
    refine kj_if_eq (pc := 14) C dX10_common_14 (tgt := 30) (by decide) (fun c1 => ?_) (fun c1 => ?_)
    · have h := of_pos c1 h
      refine kj_ild2 (pc := 30) C dX10_common_30 ?_
      cases h
      exact kj_iret (pc := 31) C hr hR dX10_common_31
    · have h := of_neg c1 h
      refine kj_ild2 (pc := 17) C dX10_common_17 ?_
      refine kj_ild3 (pc := 18) C dX10_common_18 ?_
      obtain ⟨c2, h⟩ := of_gd h
      refine kj_irem (pc := 19) C dX10_common_19 c2 ?_
      obtain ⟨x3, ex3, h⟩ := of_lt h
      refine kj_ni ex3 ?_
      refine kj_ist4 (pc := 20) C dX10_common_20 (Nat.le_of_ble_eq_true rfl) rfl ?_
      refine kj_ild3 (pc := 22) C dX10_common_22 ?_
      refine kj_ist2w (pc := 23) C dX10_common_23 (Nat.le_of_ble_eq_true rfl) ?_
      refine kj_ild4 (pc := 24) C dX10_common_24 ?_
      refine kj_ist3 (pc := 26) C dX10_common_26 (Nat.le_of_ble_eq_true rfl) rfl ?_
      refine kj_goto (pc := 27) C dX10_common_27 (tgt := 13) (by decide) ?_
      exact ih _ _ _ _ _ h
def f_X10_common_10 (M : Mem) (v1 : Int32) (s0 : Int32) : Option (Int32) := f_X10_common_13 M 100 s0 v1
set_option maxHeartbeats 4000000 in
set_option maxRecDepth 100000 in
theorem k_X10_common_10 {g : GT} {X : XT} {M : Mem} {t : Int32} (C : Cx g X cX10_common RX10 5 0) (hr : (xt X).sig.returnType = some .int) (hR : Rt g X (some (.int t)) M) : ∀ (v1 : Int32) (s0 : Int32) (w0 w2 w3 w4 : Option Value), f_X10_common_10 M v1 s0 = some t → Kj g X 5 10 [w0, some (.int v1), w2, w3, w4] [.int s0] M := by
  intro v1 s0 w0 w2 w3 w4 h
  unfold f_X10_common_10 at h
  refine kj_ist2 (pc := 10) C dX10_common_10 (Nat.le_of_ble_eq_true rfl) rfl ?_
  refine kj_ild1 (pc := 11) C dX10_common_11 ?_
  refine kj_ist3 (pc := 12) C dX10_common_12 (Nat.le_of_ble_eq_true rfl) rfl ?_
  exact k_X10_common_13 C hr hR 100 _ _ _ _ _ h
def f_X10_common (v0 : Int32) (v1 : Int32) (M : Mem) : Option (Int32) := if 0 ≤ v0 then f_X10_common_10 M v1 v0 else f_X10_common_10 M v1 (-v0)
set_option maxHeartbeats 4000000 in
set_option maxRecDepth 100000 in
theorem ct_X10_common {g : GT} {l : Launch} {v0 : Int32} {v1 : Int32} {M : Mem} {t : Int32} (h : f_X10_common v0 v1 M = some t) : Ct g l 0 yX10_common cX10_common 5 (some .int) [.int v0, .int v1] M (some (.int t)) M := by
  refine ct_of (k := 3) (by decide) (Nat.le_of_ble_eq_true rfl) rfl (fun X C hl hr hR => ?_)
  subst hl
  have C : Cx g X cX10_common RX10 5 0 := C
  unfold f_X10_common at h
  refine kj_ild0 (pc := 0) C dX10_common_0 ?_
  refine kj_if_ge (pc := 1) C dX10_common_1 (tgt := 9) (by decide) (fun c1 => ?_) (fun c1 => ?_)
  · have h := of_pos c1 h
    refine kj_ild0 (pc := 9) C dX10_common_9 ?_
    exact k_X10_common_10 C hr hR _ _ _ _ _ _ h
  · have h := of_neg c1 h
    refine kj_ild0 (pc := 4) C dX10_common_4 ?_
    refine kj_ineg (pc := 5) C dX10_common_5 ?_
    refine kj_goto (pc := 6) C dX10_common_6 (tgt := 10) (by decide) ?_
    exact k_X10_common_10 C hr hR _ _ _ _ _ _ h
def f_X10_notesOf (v1 : Int32) (v2 : Int32) (M : Mem) : Option (Int32 × Mem) := lt_ (sw M 27 0 12 v1) (fun M1 => (f_X10_layTrial M1).bind (fun q2 => (f_X10_goOn v2 q2).bind (fun q3 => (f_X10_notesOn 1 q3).bind (fun q4 => (f_X10_ones q4 q3).bind (fun q5 => lt_ (sw q3 27 0 12 63) (fun M6 => some (q5, M6)))))))
set_option maxHeartbeats 4000000 in
set_option maxRecDepth 100000 in
theorem ct_X10_notesOf {g : GT} {l : Launch} {v1 : Int32} {v2 : Int32} {M : Mem} {t : Int32 × Mem} (h : f_X10_notesOf v1 v2 M = some t) : Ct g l 6 yX10_notesOf cX10_notesOf 4 (some .int) [.ref (ga g 27 0), .int v1, .int v2] M (some (.int t.1)) t.2 := by
  refine ct_of (k := 1) (by decide) (Nat.le_of_ble_eq_true rfl) rfl (fun X C hl hr hR => ?_)
  subst hl
  have C : Cx g X cX10_notesOf RX10 4 6 := C
  unfold f_X10_notesOf at h
  refine kj_ald0 (pc := 0) C dX10_notesOf_0 ?_
  refine kj_ild1 (pc := 1) C dX10_notesOf_1 ?_
  obtain ⟨M1, eM1, h⟩ := of_lt h
  refine pf_X10_28 (pc := 2) C dX10_notesOf_2 ?_
  refine kj_nM eM1 ?_
  refine kj_ald0 (pc := 5) C dX10_notesOf_5 ?_
  obtain ⟨q2, eq2, h⟩ := of_bind h
  refine kj_callV0 (pc := 6) C (ct_X10_layTrial eq2) (Nat.le_of_ble_eq_true rfl) mi_X10_layTrial ml_X10_155 rc_27 rfl rfl ar0 (Nat.le_of_ble_eq_true rfl) dX10_notesOf_6 ?_
  refine kj_ald0 (pc := 9) C dX10_notesOf_9 ?_
  refine kj_ild2 (pc := 10) C dX10_notesOf_10 ?_
  obtain ⟨q3, eq3, h⟩ := of_bind h
  refine kj_callV0 (pc := 11) C (ct_X10_goOn eq3) (Nat.le_of_ble_eq_true rfl) mi_X10_goOn ml_X10_158 rc_27 rfl rfl ar1 (Nat.le_of_ble_eq_true rfl) dX10_notesOf_11 ?_
  refine kj_ald0 (pc := 14) C dX10_notesOf_14 ?_
  refine kj_iconst (pc := 15) C (v := 1) dX10_notesOf_15 ci_1 ?_
  obtain ⟨q4, eq4, h⟩ := of_bind h
  refine kj_callV1 (pc := 16) C (ct_X10_notesOn eq4) (Nat.le_of_ble_eq_true rfl) mi_X10_notesOn ml_X10_137 rc_27 rfl rfl ar1 (Nat.le_of_ble_eq_true rfl) dX10_notesOf_16 ?_
  obtain ⟨q5, eq5, h⟩ := of_bind h
  refine kj_callS1 (pc := 19) C (ct_X10_ones eq5) (Nat.le_of_ble_eq_true rfl) mi_X10_ones ml_X10_140 rfl as1 (Nat.le_of_ble_eq_true rfl) dX10_notesOf_19 ?_
  refine kj_ist3 (pc := 22) C dX10_notesOf_22 (Nat.le_of_ble_eq_true rfl) rfl ?_
  refine kj_ald0 (pc := 23) C dX10_notesOf_23 ?_
  refine kj_bipush (pc := 24) C (v := 63) dX10_notesOf_24 cb_63 ?_
  obtain ⟨M6, eM6, h⟩ := of_lt h
  refine pf_X10_28 (pc := 26) C dX10_notesOf_26 ?_
  refine kj_nM eM6 ?_
  refine kj_ild3 (pc := 29) C dX10_notesOf_29 ?_
  cases h
  exact kj_iret (pc := 30) C hr hR dX10_notesOf_30
def f_X10_share_128 (s0 : Int32) (M : Mem) : Option (Int32 × Mem) := some (s0, M)
set_option maxHeartbeats 4000000 in
set_option maxRecDepth 100000 in
theorem k_X10_share_128 {g : GT} {X : XT} {t : Int32 × Mem} (C : Cx g X cX10_share RX10 6 7) (hr : (xt X).sig.returnType = some .int) (hR : Rt g X (some (.int t.1)) t.2) : ∀ (s0 : Int32) (M : Mem) (w0 w1 w2 w3 w4 w5 : Option Value), f_X10_share_128 s0 M = some t → Kj g X 6 128 [w0, w1, w2, w3, w4, w5] [.int s0] M := by
  intro s0 M w0 w1 w2 w3 w4 w5 h
  unfold f_X10_share_128 at h
  cases h
  exact kj_iret (pc := 128) C hr hR dX10_share_128
def f_X10_share_88 (k15 : Int32 → Int32 → Int32 → Int32 → Mem → Option (Int32 × Mem)) (v1 : Int32) (v2 : Int32) (v3 : Int32) (v4 : Int32) (M : Mem) : Option (Int32 × Mem) := lt_ (v4 + 1) (fun x1 => k15 v1 v2 v3 x1 M)
set_option maxHeartbeats 4000000 in
set_option maxRecDepth 100000 in
theorem k_X10_share_88 {g : GT} {X : XT} {k15 : Int32 → Int32 → Int32 → Int32 → Mem → Option (Int32 × Mem)} {t : Int32 × Mem} (C : Cx g X cX10_share RX10 6 7) (hr : (xt X).sig.returnType = some .int) (hR : Rt g X (some (.int t.1)) t.2) (hk15 : ∀ (v1 : Int32) (v2 : Int32) (v3 : Int32) (v4 : Int32) (M : Mem) (w5 : Option Value), k15 v1 v2 v3 v4 M = some t → Kj g X 6 15 [some (.ref (ga g 27 0)), some (.int v1), some (.int v2), some (.int v3), some (.int v4), w5] [] M) : ∀ (v1 : Int32) (v2 : Int32) (v3 : Int32) (v4 : Int32) (M : Mem) (w5 : Option Value), f_X10_share_88 k15 v1 v2 v3 v4 M = some t → Kj g X 6 88 [some (.ref (ga g 27 0)), some (.int v1), some (.int v2), some (.int v3), some (.int v4), w5] [] M := by
  intro v1 v2 v3 v4 M w5 h
  unfold f_X10_share_88 at h
  obtain ⟨x1, ex1, h⟩ := of_lt h
  refine kj_iinc4 (pc := 88) C (v := x1) dX10_share_88 (Nat.le_of_ble_eq_true rfl) rfl (by rw [ex1, ci_1]) ?_
  refine kj_goto (pc := 91) C dX10_share_91 (tgt := 15) (by decide) ?_
  exact hk15 _ _ _ _ _ _ h
def f_X10_share_15 (n : Nat) (v1 : Int32) (v2 : Int32) (v3 : Int32) (v4 : Int32) (M : Mem) : Option (Int32 × Mem) := match n with
  | 0 => none
  | n + 1 => if ((1 : Int32) <<< ((M.1 27 0 0) &&& 31)) ≤ v4 then (f_X10_factorial (M.1 27 0 0) M).bind (fun q2 => (f_X10_common v3 q2 M).bind (fun q3 => if v2 = 0 then (f_X10_factorial (M.1 27 0 0) M).bind (fun q5 => if ¬ q3 = 0 then f_X10_share_128 (q5 / q3) M else none) else if ¬ q3 = 0 then f_X10_share_128 (v3 / q3) M else none)) else (f_X10_has v4 v1 M).bind (fun q8 => if q8 = 0 then (f_X10_ones v4 M).bind (fun q10 => (f_X10_factorial q10 M).bind (fun q11 => (f_X10_ones v4 M).bind (fun q12 => (f_X10_factorial (((M.1 27 0 0) - (1 : Int32)) - q12) M).bind (fun q13 => lt_ (q11 * q13) (fun x14 => (f_X10_notesOf (v4 ||| ((1 : Int32) <<< (v1 &&& 31))) 6 M).bind (fun q15 => (f_X10_notesOf v4 6 q15.2).bind (fun q16 => lt_ (v3 + (x14 * (q15.1 - q16.1))) (fun x17 => f_X10_share_88 (f_X10_share_15 n) v1 v2 x17 v4 q16.2)))))))) else f_X10_share_88 (f_X10_share_15 n) v1 v2 v3 v4 M)
set_option maxHeartbeats 4000000 in
set_option maxRecDepth 100000 in
theorem k_X10_share_15 {g : GT} {X : XT} {t : Int32 × Mem} (C : Cx g X cX10_share RX10 6 7) (hr : (xt X).sig.returnType = some .int) (hR : Rt g X (some (.int t.1)) t.2) (n : Nat) : ∀ (v1 : Int32) (v2 : Int32) (v3 : Int32) (v4 : Int32) (M : Mem) (w5 : Option Value), f_X10_share_15 n v1 v2 v3 v4 M = some t → Kj g X 6 15 [some (.ref (ga g 27 0)), some (.int v1), some (.int v2), some (.int v3), some (.int v4), w5] [] M := by
  induction n with
  | zero => intro v1 v2 v3 v4 M w5 h; rw [f_X10_share_15] at h; cases h
  | succ n ih =>
    intro v1 v2 v3 v4 M w5 h
    rw [f_X10_share_15] at h
    refine kj_ild4 (pc := 15) C dX10_share_15 ?_
    refine kj_iconst (pc := 17) C (v := 1) dX10_share_17 ci_1 ?_
    refine kj_ald0 (pc := 18) C dX10_share_18 ?_
    refine gf_X10_96 (pc := 19) C dX10_share_19 ?_
    refine kj_ishl (pc := 22) C dX10_share_22 ?_
    refine kj_icmp_ge (pc := 23) C dX10_share_23 (tgt := 94) (by decide) (fun c1 => ?_) (fun c1 => ?_)
    · have h := of_pos c1 h
      refine kj_ild3 (pc := 94) C dX10_share_94 ?_
      refine kj_ald0 (pc := 95) C dX10_share_95 ?_
      refine gf_X10_96 (pc := 96) C dX10_share_96 ?_
      obtain ⟨q2, eq2, h⟩ := of_bind h
      refine kj_callS1 (pc := 99) C (ct_X10_factorial eq2) (Nat.le_of_ble_eq_true rfl) mi_X10_factorial ml_X10_193 rfl as1 (Nat.le_of_ble_eq_true rfl) dX10_share_99 ?_
      obtain ⟨q3, eq3, h⟩ := of_bind h
      refine kj_callS1 (pc := 102) C (ct_X10_common eq3) (Nat.le_of_ble_eq_true rfl) mi_X10_common ml_X10_199 rfl as2 (Nat.le_of_ble_eq_true rfl) dX10_share_102 ?_
      refine kj_ist4 (pc := 105) C dX10_share_105 (Nat.le_of_ble_eq_true rfl) rfl ?_
      refine kj_ild2 (pc := 107) C dX10_share_107 ?_
      refine kj_if_eq (pc := 108) C dX10_share_108 (tgt := 118) (by decide) (fun c4 => ?_) (fun c4 => ?_)
      · have h := of_pos c4 h
        refine kj_ald0 (pc := 118) C dX10_share_118 ?_
        refine gf_X10_96 (pc := 119) C dX10_share_119 ?_
        obtain ⟨q5, eq5, h⟩ := of_bind h
        refine kj_callS1 (pc := 122) C (ct_X10_factorial eq5) (Nat.le_of_ble_eq_true rfl) mi_X10_factorial ml_X10_193 rfl as1 (Nat.le_of_ble_eq_true rfl) dX10_share_122 ?_
        refine kj_ild4 (pc := 125) C dX10_share_125 ?_
        obtain ⟨c6, h⟩ := of_gd h
        refine kj_idiv (pc := 127) C dX10_share_127 c6 ?_
        exact k_X10_share_128 C hr hR _ _ _ _ _ _ _ _ h
      · have h := of_neg c4 h
        refine kj_ild3 (pc := 111) C dX10_share_111 ?_
        refine kj_ild4 (pc := 112) C dX10_share_112 ?_
        obtain ⟨c7, h⟩ := of_gd h
        refine kj_idiv (pc := 114) C dX10_share_114 c7 ?_
        refine kj_goto (pc := 115) C dX10_share_115 (tgt := 128) (by decide) ?_
        exact k_X10_share_128 C hr hR _ _ _ _ _ _ _ _ h
    · have h := of_neg c1 h
      refine kj_ild4 (pc := 26) C dX10_share_26 ?_
      refine kj_ild1 (pc := 28) C dX10_share_28 ?_
      obtain ⟨q8, eq8, h⟩ := of_bind h
      refine kj_callS1 (pc := 29) C (ct_X10_has eq8) (Nat.le_of_ble_eq_true rfl) mi_X10_has ml_X10_74 rfl as2 (Nat.le_of_ble_eq_true rfl) dX10_share_29 ?_
      refine kj_if_ne (pc := 32) C dX10_share_32 (tgt := 88) (by decide) (fun c9 => ?_) (fun c9 => ?_)
      · have h := of_neg c9 h
        exact k_X10_share_88 C hr hR ih _ _ _ _ _ _ h
      · have h := of_pos c9 h
        refine kj_ild4 (pc := 35) C dX10_share_35 ?_
        obtain ⟨q10, eq10, h⟩ := of_bind h
        refine kj_callS1 (pc := 37) C (ct_X10_ones eq10) (Nat.le_of_ble_eq_true rfl) mi_X10_ones ml_X10_140 rfl as1 (Nat.le_of_ble_eq_true rfl) dX10_share_37 ?_
        obtain ⟨q11, eq11, h⟩ := of_bind h
        refine kj_callS1 (pc := 40) C (ct_X10_factorial eq11) (Nat.le_of_ble_eq_true rfl) mi_X10_factorial ml_X10_193 rfl as1 (Nat.le_of_ble_eq_true rfl) dX10_share_40 ?_
        refine kj_ald0 (pc := 43) C dX10_share_43 ?_
        refine gf_X10_96 (pc := 44) C dX10_share_44 ?_
        refine kj_iconst (pc := 47) C (v := 1) dX10_share_47 ci_1 ?_
        refine kj_isub (pc := 48) C dX10_share_48 ?_
        refine kj_ild4 (pc := 49) C dX10_share_49 ?_
        obtain ⟨q12, eq12, h⟩ := of_bind h
        refine kj_callS1 (pc := 51) C (ct_X10_ones eq12) (Nat.le_of_ble_eq_true rfl) mi_X10_ones ml_X10_140 rfl as1 (Nat.le_of_ble_eq_true rfl) dX10_share_51 ?_
        refine kj_isub (pc := 54) C dX10_share_54 ?_
        obtain ⟨q13, eq13, h⟩ := of_bind h
        refine kj_callS1 (pc := 55) C (ct_X10_factorial eq13) (Nat.le_of_ble_eq_true rfl) mi_X10_factorial ml_X10_193 rfl as1 (Nat.le_of_ble_eq_true rfl) dX10_share_55 ?_
        refine kj_imul (pc := 58) C dX10_share_58 ?_
        obtain ⟨x14, ex14, h⟩ := of_lt h
        refine kj_ni ex14 ?_
        refine kj_ist5 (pc := 59) C dX10_share_59 (Nat.le_of_ble_eq_true rfl) rfl ?_
        refine kj_ild3 (pc := 61) C dX10_share_61 ?_
        refine kj_ild5 (pc := 62) C dX10_share_62 ?_
        refine kj_ald0 (pc := 64) C dX10_share_64 ?_
        refine kj_ild4 (pc := 65) C dX10_share_65 ?_
        refine kj_iconst (pc := 67) C (v := 1) dX10_share_67 ci_1 ?_
        refine kj_ild1 (pc := 68) C dX10_share_68 ?_
        refine kj_ishl (pc := 69) C dX10_share_69 ?_
        refine kj_ior (pc := 70) C dX10_share_70 ?_
        refine kj_bipush (pc := 71) C (v := 6) dX10_share_71 cb_6 ?_
        obtain ⟨q15, eq15, h⟩ := of_bind h
        refine kj_callV1 (pc := 73) C (ct_X10_notesOf eq15) (Nat.le_of_ble_eq_true rfl) mi_X10_notesOf ml_X10_196 rc_27 rfl rfl ar2 (Nat.le_of_ble_eq_true rfl) dX10_share_73 ?_
        refine kj_ald0 (pc := 76) C dX10_share_76 ?_
        refine kj_ild4 (pc := 77) C dX10_share_77 ?_
        refine kj_bipush (pc := 79) C (v := 6) dX10_share_79 cb_6 ?_
        obtain ⟨q16, eq16, h⟩ := of_bind h
        refine kj_callV1 (pc := 81) C (ct_X10_notesOf eq16) (Nat.le_of_ble_eq_true rfl) mi_X10_notesOf ml_X10_196 rc_27 rfl rfl ar2 (Nat.le_of_ble_eq_true rfl) dX10_share_81 ?_
        refine kj_isub (pc := 84) C dX10_share_84 ?_
        refine kj_imul (pc := 85) C dX10_share_85 ?_
        refine kj_iadd (pc := 86) C dX10_share_86 ?_
        obtain ⟨x17, ex17, h⟩ := of_lt h
        refine kj_ni ex17 ?_
        refine kj_ist3 (pc := 87) C dX10_share_87 (Nat.le_of_ble_eq_true rfl) rfl ?_
        exact k_X10_share_88 C hr hR ih _ _ _ _ _ _ h
def f_X10_share (v1 : Int32) (v2 : Int32) (M : Mem) : Option (Int32 × Mem) := (f_X10_isSinger v1 M).bind (fun q1 => if q1 = 0 then some (((-1) : Int32), M) else f_X10_share_15 100 v1 v2 0 0 M)
set_option maxHeartbeats 4000000 in
set_option maxRecDepth 100000 in
theorem ct_X10_share {g : GT} {l : Launch} {v1 : Int32} {v2 : Int32} {M : Mem} {t : Int32 × Mem} (h : f_X10_share v1 v2 M = some t) : Ct g l 7 yX10_share cX10_share 6 (some .int) [.ref (ga g 27 0), .int v1, .int v2] M (some (.int t.1)) t.2 := by
  refine ct_of (k := 3) (by decide) (Nat.le_of_ble_eq_true rfl) rfl (fun X C hl hr hR => ?_)
  subst hl
  have C : Cx g X cX10_share RX10 6 7 := C
  unfold f_X10_share at h
  refine kj_ald0 (pc := 0) C dX10_share_0 ?_
  refine kj_ild1 (pc := 1) C dX10_share_1 ?_
  obtain ⟨q1, eq1, h⟩ := of_bind h
  refine kj_callV1 (pc := 2) C (ct_X10_isSinger eq1) (Nat.le_of_ble_eq_true rfl) mi_X10_isSinger ml_X10_119 rc_27 rfl rfl ar1 (Nat.le_of_ble_eq_true rfl) dX10_share_2 ?_
  refine kj_if_ne (pc := 5) C dX10_share_5 (tgt := 10) (by decide) (fun c2 => ?_) (fun c2 => ?_)
  · have h := of_neg c2 h
    refine kj_iconst (pc := 10) C (v := 0) dX10_share_10 ci_0 ?_
    refine kj_ist3 (pc := 11) C dX10_share_11 (Nat.le_of_ble_eq_true rfl) rfl ?_
    refine kj_iconst (pc := 12) C (v := 0) dX10_share_12 ci_0 ?_
    refine kj_ist4 (pc := 13) C dX10_share_13 (Nat.le_of_ble_eq_true rfl) rfl ?_
    exact k_X10_share_15 C hr hR 100 _ _ _ _ _ _ h
  · have h := of_pos c2 h
    refine kj_iconst (pc := 8) C (v := (-1)) dX10_share_8 ci_m1 ?_
    cases h
    exact kj_iret (pc := 9) C hr hR dX10_share_9
def f_X10_gain_65 (k30 : Int32 → Int32 → Int32 → Mem → Option (Int32 × Mem)) (v1 : Int32) (v5 : Int32) (s0 : Int32) (s1 : Int32) (M : Mem) : Option (Int32 × Mem) := lt_ (s0 + s1) (fun x1 => lt_ (v5 + 1) (fun x2 => k30 v1 x1 x2 M))
set_option maxHeartbeats 4000000 in
set_option maxRecDepth 100000 in
theorem k_X10_gain_65 {g : GT} {X : XT} {k30 : Int32 → Int32 → Int32 → Mem → Option (Int32 × Mem)} {t : Int32 × Mem} (C : Cx g X cX10_gain RX10 6 6) (hr : (xt X).sig.returnType = some .int) (hR : Rt g X (some (.int t.1)) t.2) (hk30 : ∀ (v1 : Int32) (v4 : Int32) (v5 : Int32) (M : Mem) (w2 w3 : Option Value), k30 v1 v4 v5 M = some t → Kj g X 6 30 [some (.ref (ga g 27 0)), some (.int v1), w2, w3, some (.int v4), some (.int v5)] [] M) : ∀ (v1 : Int32) (v5 : Int32) (s0 : Int32) (s1 : Int32) (M : Mem) (w2 w3 w4 : Option Value), f_X10_gain_65 k30 v1 v5 s0 s1 M = some t → Kj g X 6 65 [some (.ref (ga g 27 0)), some (.int v1), w2, w3, w4, some (.int v5)] [.int s1, .int s0] M := by
  intro v1 v5 s0 s1 M w2 w3 w4 h
  unfold f_X10_gain_65 at h
  refine kj_iadd (pc := 65) C dX10_gain_65 ?_
  obtain ⟨x1, ex1, h⟩ := of_lt h
  refine kj_ni ex1 ?_
  refine kj_ist4w (pc := 66) C dX10_gain_66 (Nat.le_of_ble_eq_true rfl) ?_
  obtain ⟨x2, ex2, h⟩ := of_lt h
  refine kj_iinc5 (pc := 68) C (v := x2) dX10_gain_68 (Nat.le_of_ble_eq_true rfl) rfl (by rw [ex2, ci_1]) ?_
  refine kj_goto (pc := 71) C dX10_gain_71 (tgt := 30) (by decide) ?_
  exact hk30 _ _ _ _ _ _ h
def f_X10_gain_30 (n : Nat) (v1 : Int32) (v4 : Int32) (v5 : Int32) (M : Mem) : Option (Int32 × Mem) := match n with
  | 0 => none
  | n + 1 => if (M.1 27 0 0) ≤ v5 then some (v4, M) else lt_ ((32 : Int32) + v5) (fun x3 => if ¬ (x3 < 0 ∨ 40 ≤ x3.toNatClampNeg) then if ¬ (v1 < 0 ∨ 6 ≤ v1.toNatClampNeg) then if (M.1 27 4 x3.toNatClampNeg) = (M.1 27 1 v1.toNatClampNeg) then f_X10_gain_65 (f_X10_gain_30 n) v1 v5 v4 1 M else f_X10_gain_65 (f_X10_gain_30 n) v1 v5 v4 0 M else none else none)
set_option maxHeartbeats 4000000 in
set_option maxRecDepth 100000 in
theorem k_X10_gain_30 {g : GT} {X : XT} {t : Int32 × Mem} (C : Cx g X cX10_gain RX10 6 6) (hr : (xt X).sig.returnType = some .int) (hR : Rt g X (some (.int t.1)) t.2) (n : Nat) : ∀ (v1 : Int32) (v4 : Int32) (v5 : Int32) (M : Mem) (w2 w3 : Option Value), f_X10_gain_30 n v1 v4 v5 M = some t → Kj g X 6 30 [some (.ref (ga g 27 0)), some (.int v1), w2, w3, some (.int v4), some (.int v5)] [] M := by
  induction n with
  | zero => intro v1 v4 v5 M w2 w3 h; rw [f_X10_gain_30] at h; cases h
  | succ n ih =>
    intro v1 v4 v5 M w2 w3 h
    rw [f_X10_gain_30] at h
    refine kj_ild5 (pc := 30) C dX10_gain_30 ?_
    refine kj_ald0 (pc := 32) C dX10_gain_32 ?_
    refine gf_X10_96 (pc := 33) C dX10_gain_33 ?_
    refine kj_icmp_ge (pc := 36) C dX10_gain_36 (tgt := 74) (by decide) (fun c1 => ?_) (fun c1 => ?_)
    · have h := of_pos c1 h
      refine kj_ild4 (pc := 74) C dX10_gain_74 ?_
      cases h
      exact kj_iret (pc := 76) C hr hR dX10_gain_76
    · have h := of_neg c1 h
      refine kj_ild4 (pc := 39) C dX10_gain_39 ?_
      refine kj_ald0 (pc := 41) C dX10_gain_41 ?_
      refine gf_X10_19 (pc := 42) C dX10_gain_42 ?_
      refine kj_bipush (pc := 45) C (v := 32) dX10_gain_45 cb_32 ?_
      refine kj_ild5 (pc := 47) C dX10_gain_47 ?_
      refine kj_iadd (pc := 49) C dX10_gain_49 ?_
      obtain ⟨x3, ex3, h⟩ := of_lt h
      refine kj_ni ex3 ?_
      obtain ⟨c2, h⟩ := of_gd h
      refine kj_iald2 (pc := 50) C ia_27_4 c2 dX10_gain_50 ?_
      refine kj_ald0 (pc := 51) C dX10_gain_51 ?_
      refine gf_X10_7 (pc := 52) C dX10_gain_52 ?_
      refine kj_ild1 (pc := 55) C dX10_gain_55 ?_
      obtain ⟨c4, h⟩ := of_gd h
      refine kj_iald2 (pc := 56) C ia_27_1 c4 dX10_gain_56 ?_
      refine kj_icmp_ne (pc := 57) C dX10_gain_57 (tgt := 64) (by decide) (fun c5 => ?_) (fun c5 => ?_)
      · have h := of_neg c5 h
        refine kj_iconst (pc := 64) C (v := 0) dX10_gain_64 ci_0 ?_
        exact k_X10_gain_65 C hr hR ih _ _ _ _ _ _ _ _ h
      · have h := of_pos c5 h
        refine kj_iconst (pc := 60) C (v := 1) dX10_gain_60 ci_1 ?_
        refine kj_goto (pc := 61) C dX10_gain_61 (tgt := 65) (by decide) ?_
        exact k_X10_gain_65 C hr hR ih _ _ _ _ _ _ _ _ h
def f_X10_gain (v1 : Int32) (v2 : Int32) (v3 : Int32) (M : Mem) : Option (Int32 × Mem) := (f_X10_layTrial M).bind (fun q1 => (f_X10_giveOn 1 v2 4 q1).bind (fun q2 => (f_X10_giveOn 1 v3 4 q2).bind (fun q3 => (f_X10_goOn 6 q3).bind (fun q4 => f_X10_gain_30 100 v1 0 0 q4))))
set_option maxHeartbeats 4000000 in
set_option maxRecDepth 100000 in
theorem ct_X10_gain {g : GT} {l : Launch} {v1 : Int32} {v2 : Int32} {v3 : Int32} {M : Mem} {t : Int32 × Mem} (h : f_X10_gain v1 v2 v3 M = some t) : Ct g l 6 yX10_gain cX10_gain 6 (some .int) [.ref (ga g 27 0), .int v1, .int v2, .int v3] M (some (.int t.1)) t.2 := by
  refine ct_of (k := 2) (by decide) (Nat.le_of_ble_eq_true rfl) rfl (fun X C hl hr hR => ?_)
  subst hl
  have C : Cx g X cX10_gain RX10 6 6 := C
  unfold f_X10_gain at h
  refine kj_ald0 (pc := 0) C dX10_gain_0 ?_
  obtain ⟨q1, eq1, h⟩ := of_bind h
  refine kj_callV0 (pc := 1) C (ct_X10_layTrial eq1) (Nat.le_of_ble_eq_true rfl) mi_X10_layTrial ml_X10_155 rc_27 rfl rfl ar0 (Nat.le_of_ble_eq_true rfl) dX10_gain_1 ?_
  refine kj_ald0 (pc := 4) C dX10_gain_4 ?_
  refine kj_iconst (pc := 5) C (v := 1) dX10_gain_5 ci_1 ?_
  refine kj_ild2 (pc := 6) C dX10_gain_6 ?_
  refine kj_iconst (pc := 7) C (v := 4) dX10_gain_7 ci_4 ?_
  obtain ⟨q2, eq2, h⟩ := of_bind h
  refine kj_callV0 (pc := 8) C (ct_X10_giveOn eq2) (Nat.le_of_ble_eq_true rfl) mi_X10_giveOn ml_X10_143 rc_27 rfl rfl ar3 (Nat.le_of_ble_eq_true rfl) dX10_gain_8 ?_
  refine kj_ald0 (pc := 11) C dX10_gain_11 ?_
  refine kj_iconst (pc := 12) C (v := 1) dX10_gain_12 ci_1 ?_
  refine kj_ild3 (pc := 13) C dX10_gain_13 ?_
  refine kj_iconst (pc := 14) C (v := 4) dX10_gain_14 ci_4 ?_
  obtain ⟨q3, eq3, h⟩ := of_bind h
  refine kj_callV0 (pc := 15) C (ct_X10_giveOn eq3) (Nat.le_of_ble_eq_true rfl) mi_X10_giveOn ml_X10_143 rc_27 rfl rfl ar3 (Nat.le_of_ble_eq_true rfl) dX10_gain_15 ?_
  refine kj_ald0 (pc := 18) C dX10_gain_18 ?_
  refine kj_bipush (pc := 19) C (v := 6) dX10_gain_19 cb_6 ?_
  obtain ⟨q4, eq4, h⟩ := of_bind h
  refine kj_callV0 (pc := 21) C (ct_X10_goOn eq4) (Nat.le_of_ble_eq_true rfl) mi_X10_goOn ml_X10_158 rc_27 rfl rfl ar1 (Nat.le_of_ble_eq_true rfl) dX10_gain_21 ?_
  refine kj_iconst (pc := 24) C (v := 0) dX10_gain_24 ci_0 ?_
  refine kj_ist4 (pc := 25) C dX10_gain_25 (Nat.le_of_ble_eq_true rfl) rfl ?_
  refine kj_iconst (pc := 27) C (v := 0) dX10_gain_27 ci_0 ?_
  refine kj_ist5 (pc := 28) C dX10_gain_28 (Nat.le_of_ble_eq_true rfl) rfl ?_
  exact k_X10_gain_30 C hr hR 100 _ _ _ _ _ _ h
def f_X10_isRest_64 (k6 : Int32 → Int32 → Int32 → Int32 → Int32 → Int32 → Mem → Option (Int32 × Mem)) (v1 : Int32) (v2 : Int32) (v3 : Int32) (v4 : Int32) (v6 : Int32) (s0 : Int32) (M : Mem) : Option (Int32 × Mem) := lt_ (v6 + 1) (fun x1 => k6 v1 v2 v3 v4 s0 x1 M)
set_option maxHeartbeats 4000000 in
set_option maxRecDepth 100000 in
theorem k_X10_isRest_64 {g : GT} {X : XT} {k6 : Int32 → Int32 → Int32 → Int32 → Int32 → Int32 → Mem → Option (Int32 × Mem)} {t : Int32 × Mem} (C : Cx g X cX10_isRest RX10 7 7) (hr : (xt X).sig.returnType = some .boolean) (hR : Rt g X (some (.int t.1)) t.2) (hk6 : ∀ (v1 : Int32) (v2 : Int32) (v3 : Int32) (v4 : Int32) (v5 : Int32) (v6 : Int32) (M : Mem), k6 v1 v2 v3 v4 v5 v6 M = some t → Kj g X 7 6 [some (.ref (ga g 27 0)), some (.int v1), some (.int v2), some (.int v3), some (.int v4), some (.int v5), some (.int v6)] [] M) : ∀ (v1 : Int32) (v2 : Int32) (v3 : Int32) (v4 : Int32) (v6 : Int32) (s0 : Int32) (M : Mem) (w5 : Option Value), f_X10_isRest_64 k6 v1 v2 v3 v4 v6 s0 M = some t → Kj g X 7 64 [some (.ref (ga g 27 0)), some (.int v1), some (.int v2), some (.int v3), some (.int v4), w5, some (.int v6)] [.int s0] M := by
  intro v1 v2 v3 v4 v6 s0 M w5 h
  unfold f_X10_isRest_64 at h
  refine kj_ist5 (pc := 64) C dX10_isRest_64 (Nat.le_of_ble_eq_true rfl) rfl ?_
  obtain ⟨x1, ex1, h⟩ := of_lt h
  refine kj_iinc6 (pc := 66) C (v := x1) dX10_isRest_66 (Nat.le_of_ble_eq_true rfl) rfl (by rw [ex1, ci_1]) ?_
  refine kj_goto (pc := 69) C dX10_isRest_69 (tgt := 6) (by decide) ?_
  exact hk6 _ _ _ _ _ _ _ h
def f_X10_isRest_63 (k6 : Int32 → Int32 → Int32 → Int32 → Int32 → Int32 → Mem → Option (Int32 × Mem)) (v1 : Int32) (v2 : Int32) (v3 : Int32) (v4 : Int32) (v6 : Int32) (M : Mem) : Option (Int32 × Mem) := f_X10_isRest_64 k6 v1 v2 v3 v4 v6 0 M
set_option maxHeartbeats 4000000 in
set_option maxRecDepth 100000 in
theorem k_X10_isRest_63 {g : GT} {X : XT} {k6 : Int32 → Int32 → Int32 → Int32 → Int32 → Int32 → Mem → Option (Int32 × Mem)} {t : Int32 × Mem} (C : Cx g X cX10_isRest RX10 7 7) (hr : (xt X).sig.returnType = some .boolean) (hR : Rt g X (some (.int t.1)) t.2) (hk6 : ∀ (v1 : Int32) (v2 : Int32) (v3 : Int32) (v4 : Int32) (v5 : Int32) (v6 : Int32) (M : Mem), k6 v1 v2 v3 v4 v5 v6 M = some t → Kj g X 7 6 [some (.ref (ga g 27 0)), some (.int v1), some (.int v2), some (.int v3), some (.int v4), some (.int v5), some (.int v6)] [] M) : ∀ (v1 : Int32) (v2 : Int32) (v3 : Int32) (v4 : Int32) (v6 : Int32) (M : Mem) (w5 : Option Value), f_X10_isRest_63 k6 v1 v2 v3 v4 v6 M = some t → Kj g X 7 63 [some (.ref (ga g 27 0)), some (.int v1), some (.int v2), some (.int v3), some (.int v4), w5, some (.int v6)] [] M := by
  intro v1 v2 v3 v4 v6 M w5 h
  unfold f_X10_isRest_63 at h
  refine kj_iconst (pc := 63) C (v := 0) dX10_isRest_63 ci_0 ?_
  exact k_X10_isRest_64 C hr hR hk6 _ _ _ _ _ _ _ _ h
def f_X10_isRest_6 (n : Nat) (v1 : Int32) (v2 : Int32) (v3 : Int32) (v4 : Int32) (v5 : Int32) (v6 : Int32) (M : Mem) : Option (Int32 × Mem) := match n with
  | 0 => none
  | n + 1 => if (M.1 27 0 0) ≤ v6 then if v5 = 0 ∨ v5 = 1 then some (v5, M) else none else if v5 = 0 then f_X10_isRest_63 (f_X10_isRest_6 n) v1 v2 v3 v4 v6 M else (f_X10_gain v1 v6 v4 M).bind (fun q4 => (f_X10_gain v1 v3 v4 q4.2).bind (fun q5 => if q5.1 < q4.1 then f_X10_isRest_63 (f_X10_isRest_6 n) v1 v2 v3 v4 v6 q5.2 else (f_X10_gain v2 v3 v6 q5.2).bind (fun q7 => (f_X10_gain v2 v3 v4 q7.2).bind (fun q8 => if q8.1 < q7.1 then f_X10_isRest_63 (f_X10_isRest_6 n) v1 v2 v3 v4 v6 q8.2 else f_X10_isRest_64 (f_X10_isRest_6 n) v1 v2 v3 v4 v6 1 q8.2))))
set_option maxHeartbeats 4000000 in
set_option maxRecDepth 100000 in
theorem k_X10_isRest_6 {g : GT} {X : XT} {t : Int32 × Mem} (C : Cx g X cX10_isRest RX10 7 7) (hr : (xt X).sig.returnType = some .boolean) (hR : Rt g X (some (.int t.1)) t.2) (n : Nat) : ∀ (v1 : Int32) (v2 : Int32) (v3 : Int32) (v4 : Int32) (v5 : Int32) (v6 : Int32) (M : Mem), f_X10_isRest_6 n v1 v2 v3 v4 v5 v6 M = some t → Kj g X 7 6 [some (.ref (ga g 27 0)), some (.int v1), some (.int v2), some (.int v3), some (.int v4), some (.int v5), some (.int v6)] [] M := by
  induction n with
  | zero => intro v1 v2 v3 v4 v5 v6 M h; rw [f_X10_isRest_6] at h; cases h
  | succ n ih =>
    intro v1 v2 v3 v4 v5 v6 M h
    rw [f_X10_isRest_6] at h
    refine kj_ild6 (pc := 6) C dX10_isRest_6 ?_
    refine kj_ald0 (pc := 8) C dX10_isRest_8 ?_
    refine gf_X10_96 (pc := 9) C dX10_isRest_9 ?_
    refine kj_icmp_ge (pc := 12) C dX10_isRest_12 (tgt := 72) (by decide) (fun c1 => ?_) (fun c1 => ?_)
    · have h := of_pos c1 h
      refine kj_ild5 (pc := 72) C dX10_isRest_72 ?_
      obtain ⟨c2, h⟩ := of_gd h
      cases h
      exact kj_zret (pc := 74) C hr c2 hR dX10_isRest_74
    · have h := of_neg c1 h
      refine kj_ild5 (pc := 15) C dX10_isRest_15 ?_
      refine kj_if_eq (pc := 17) C dX10_isRest_17 (tgt := 63) (by decide) (fun c3 => ?_) (fun c3 => ?_)
      · have h := of_pos c3 h
        exact k_X10_isRest_63 C hr hR ih _ _ _ _ _ _ _ h
      · have h := of_neg c3 h
        refine kj_ald0 (pc := 20) C dX10_isRest_20 ?_
        refine kj_ild1 (pc := 21) C dX10_isRest_21 ?_
        refine kj_ild6 (pc := 22) C dX10_isRest_22 ?_
        refine kj_ild4 (pc := 24) C dX10_isRest_24 ?_
        obtain ⟨q4, eq4, h⟩ := of_bind h
        refine kj_callV1 (pc := 26) C (ct_X10_gain eq4) (Nat.le_of_ble_eq_true rfl) mi_X10_gain ml_X10_202 rc_27 rfl rfl ar3 (Nat.le_of_ble_eq_true rfl) dX10_isRest_26 ?_
        refine kj_ald0 (pc := 29) C dX10_isRest_29 ?_
        refine kj_ild1 (pc := 30) C dX10_isRest_30 ?_
        refine kj_ild3 (pc := 31) C dX10_isRest_31 ?_
        refine kj_ild4 (pc := 32) C dX10_isRest_32 ?_
        obtain ⟨q5, eq5, h⟩ := of_bind h
        refine kj_callV1 (pc := 34) C (ct_X10_gain eq5) (Nat.le_of_ble_eq_true rfl) mi_X10_gain ml_X10_202 rc_27 rfl rfl ar3 (Nat.le_of_ble_eq_true rfl) dX10_isRest_34 ?_
        refine kj_icmp_gt (pc := 37) C dX10_isRest_37 (tgt := 63) (by decide) (fun c6 => ?_) (fun c6 => ?_)
        · have h := of_pos c6 h
          exact k_X10_isRest_63 C hr hR ih _ _ _ _ _ _ _ h
        · have h := of_neg c6 h
          refine kj_ald0 (pc := 40) C dX10_isRest_40 ?_
          refine kj_ild2 (pc := 41) C dX10_isRest_41 ?_
          refine kj_ild3 (pc := 42) C dX10_isRest_42 ?_
          refine kj_ild6 (pc := 43) C dX10_isRest_43 ?_
          obtain ⟨q7, eq7, h⟩ := of_bind h
          refine kj_callV1 (pc := 45) C (ct_X10_gain eq7) (Nat.le_of_ble_eq_true rfl) mi_X10_gain ml_X10_202 rc_27 rfl rfl ar3 (Nat.le_of_ble_eq_true rfl) dX10_isRest_45 ?_
          refine kj_ald0 (pc := 48) C dX10_isRest_48 ?_
          refine kj_ild2 (pc := 49) C dX10_isRest_49 ?_
          refine kj_ild3 (pc := 50) C dX10_isRest_50 ?_
          refine kj_ild4 (pc := 51) C dX10_isRest_51 ?_
          obtain ⟨q8, eq8, h⟩ := of_bind h
          refine kj_callV1 (pc := 53) C (ct_X10_gain eq8) (Nat.le_of_ble_eq_true rfl) mi_X10_gain ml_X10_202 rc_27 rfl rfl ar3 (Nat.le_of_ble_eq_true rfl) dX10_isRest_53 ?_
          refine kj_icmp_gt (pc := 56) C dX10_isRest_56 (tgt := 63) (by decide) (fun c9 => ?_) (fun c9 => ?_)
          · have h := of_pos c9 h
            exact k_X10_isRest_63 C hr hR ih _ _ _ _ _ _ _ h
          · have h := of_neg c9 h
            refine kj_iconst (pc := 59) C (v := 1) dX10_isRest_59 ci_1 ?_
            refine kj_goto (pc := 60) C dX10_isRest_60 (tgt := 64) (by decide) ?_
            exact k_X10_isRest_64 C hr hR ih _ _ _ _ _ _ _ _ h
def f_X10_isRest (v1 : Int32) (v2 : Int32) (v3 : Int32) (v4 : Int32) (M : Mem) : Option (Int32 × Mem) := f_X10_isRest_6 100 v1 v2 v3 v4 1 0 M
set_option maxHeartbeats 4000000 in
set_option maxRecDepth 100000 in
theorem ct_X10_isRest {g : GT} {l : Launch} {v1 : Int32} {v2 : Int32} {v3 : Int32} {v4 : Int32} {M : Mem} {t : Int32 × Mem} (h : f_X10_isRest v1 v2 v3 v4 M = some t) : Ct g l 7 yX10_isRest cX10_isRest 7 (some .boolean) [.ref (ga g 27 0), .int v1, .int v2, .int v3, .int v4] M (some (.int t.1)) t.2 := by
  refine ct_of (k := 2) (by decide) (Nat.le_of_ble_eq_true rfl) rfl (fun X C hl hr hR => ?_)
  subst hl
  have C : Cx g X cX10_isRest RX10 7 7 := C
  unfold f_X10_isRest at h
  refine kj_iconst (pc := 0) C (v := 1) dX10_isRest_0 ci_1 ?_
  refine kj_ist5 (pc := 1) C dX10_isRest_1 (Nat.le_of_ble_eq_true rfl) rfl ?_
  refine kj_iconst (pc := 3) C (v := 0) dX10_isRest_3 ci_0 ?_
  refine kj_ist6 (pc := 4) C dX10_isRest_4 (Nat.le_of_ble_eq_true rfl) rfl ?_
  exact k_X10_isRest_6 C hr hR 100 _ _ _ _ _ _ _ h
def f_X10_rests_133 (s0 : Int32) (M : Mem) : Option (Int32 × Mem) := some (s0, M)
set_option maxHeartbeats 4000000 in
set_option maxRecDepth 100000 in
theorem k_X10_rests_133 {g : GT} {X : XT} {t : Int32 × Mem} (C : Cx g X cX10_rests RX10 7 8) (hr : (xt X).sig.returnType = some .int) (hR : Rt g X (some (.int t.1)) t.2) : ∀ (s0 : Int32) (M : Mem) (w0 w1 w2 w3 w4 w5 w6 : Option Value), f_X10_rests_133 s0 M = some t → Kj g X 7 133 [w0, w1, w2, w3, w4, w5, w6] [.int s0] M := by
  intro s0 M w0 w1 w2 w3 w4 w5 w6 h
  unfold f_X10_rests_133 at h
  cases h
  exact kj_iret (pc := 133) C hr hR dX10_rests_133
def f_X10_rests_116 (k46 : Int32 → Int32 → Int32 → Int32 → Int32 → Int32 → Mem → Option (Int32 × Mem)) (v1 : Int32) (v2 : Int32) (v3 : Int32) (v4 : Int32) (v5 : Int32) (v6 : Int32) (M : Mem) : Option (Int32 × Mem) := lt_ (v6 + 1) (fun x1 => k46 v1 v2 v3 v4 v5 x1 M)
set_option maxHeartbeats 4000000 in
set_option maxRecDepth 100000 in
theorem k_X10_rests_116 {g : GT} {X : XT} {k46 : Int32 → Int32 → Int32 → Int32 → Int32 → Int32 → Mem → Option (Int32 × Mem)} {t : Int32 × Mem} (C : Cx g X cX10_rests RX10 7 8) (hr : (xt X).sig.returnType = some .int) (hR : Rt g X (some (.int t.1)) t.2) (hk46 : ∀ (v1 : Int32) (v2 : Int32) (v3 : Int32) (v4 : Int32) (v5 : Int32) (v6 : Int32) (M : Mem), k46 v1 v2 v3 v4 v5 v6 M = some t → Kj g X 7 46 [some (.ref (ga g 27 0)), some (.int v1), some (.int v2), some (.int v3), some (.int v4), some (.int v5), some (.int v6)] [] M) : ∀ (v1 : Int32) (v2 : Int32) (v3 : Int32) (v4 : Int32) (v5 : Int32) (v6 : Int32) (M : Mem), f_X10_rests_116 k46 v1 v2 v3 v4 v5 v6 M = some t → Kj g X 7 116 [some (.ref (ga g 27 0)), some (.int v1), some (.int v2), some (.int v3), some (.int v4), some (.int v5), some (.int v6)] [] M := by
  intro v1 v2 v3 v4 v5 v6 M h
  unfold f_X10_rests_116 at h
  obtain ⟨x1, ex1, h⟩ := of_lt h
  refine kj_iinc6 (pc := 116) C (v := x1) dX10_rests_116 (Nat.le_of_ble_eq_true rfl) rfl (by rw [ex1, ci_1]) ?_
  refine kj_goto (pc := 119) C dX10_rests_119 (tgt := 46) (by decide) ?_
  exact hk46 _ _ _ _ _ _ _ h
def f_X10_rests_111 (k46 : Int32 → Int32 → Int32 → Int32 → Int32 → Int32 → Mem → Option (Int32 × Mem)) (v1 : Int32) (v2 : Int32) (v3 : Int32) (v4 : Int32) (v6 : Int32) (s0 : Int32) (M : Mem) : Option (Int32 × Mem) := lt_ (v4 + 1) (fun x1 => f_X10_rests_116 k46 v1 v2 v3 x1 s0 v6 M)
set_option maxHeartbeats 4000000 in
set_option maxRecDepth 100000 in
theorem k_X10_rests_111 {g : GT} {X : XT} {k46 : Int32 → Int32 → Int32 → Int32 → Int32 → Int32 → Mem → Option (Int32 × Mem)} {t : Int32 × Mem} (C : Cx g X cX10_rests RX10 7 8) (hr : (xt X).sig.returnType = some .int) (hR : Rt g X (some (.int t.1)) t.2) (hk46 : ∀ (v1 : Int32) (v2 : Int32) (v3 : Int32) (v4 : Int32) (v5 : Int32) (v6 : Int32) (M : Mem), k46 v1 v2 v3 v4 v5 v6 M = some t → Kj g X 7 46 [some (.ref (ga g 27 0)), some (.int v1), some (.int v2), some (.int v3), some (.int v4), some (.int v5), some (.int v6)] [] M) : ∀ (v1 : Int32) (v2 : Int32) (v3 : Int32) (v4 : Int32) (v6 : Int32) (s0 : Int32) (M : Mem) (w5 : Option Value), f_X10_rests_111 k46 v1 v2 v3 v4 v6 s0 M = some t → Kj g X 7 111 [some (.ref (ga g 27 0)), some (.int v1), some (.int v2), some (.int v3), some (.int v4), w5, some (.int v6)] [.int s0] M := by
  intro v1 v2 v3 v4 v6 s0 M w5 h
  unfold f_X10_rests_111 at h
  refine kj_ist5 (pc := 111) C dX10_rests_111 (Nat.le_of_ble_eq_true rfl) rfl ?_
  obtain ⟨x1, ex1, h⟩ := of_lt h
  refine kj_iinc4 (pc := 113) C (v := x1) dX10_rests_113 (Nat.le_of_ble_eq_true rfl) rfl (by rw [ex1, ci_1]) ?_
  exact k_X10_rests_116 C hr hR hk46 _ _ _ _ _ _ _ h
def f_X10_rests_46 (n : Nat) (v1 : Int32) (v2 : Int32) (v3 : Int32) (v4 : Int32) (v5 : Int32) (v6 : Int32) (M : Mem) : Option (Int32 × Mem) := match n with
  | 0 => none
  | n + 1 => if ((M.1 27 0 0) * (M.1 27 0 0)) ≤ v6 then if v3 = 0 then f_X10_rests_133 v4 M else f_X10_rests_133 v5 M else if ¬ (M.1 27 0 0) = 0 then if ¬ (M.1 27 0 0) = 0 then (f_X10_isRest v1 v2 (v6 / (M.1 27 0 0)) (v6 - v6 / (M.1 27 0 0) * (M.1 27 0 0)) M).bind (fun q5 => if q5.1 = 0 then f_X10_rests_116 (f_X10_rests_46 n) v1 v2 v3 v4 v5 v6 q5.2 else if v4 = 0 then if ¬ (q5.2.1 27 0 0) = 0 then if ¬ (q5.2.1 27 0 0) = 0 then f_X10_rests_111 (f_X10_rests_46 n) v1 v2 v3 v4 v6 (((10 : Int32) * (v6 / (q5.2.1 27 0 0))) + (v6 - v6 / (q5.2.1 27 0 0) * (q5.2.1 27 0 0))) q5.2 else none else none else f_X10_rests_111 (f_X10_rests_46 n) v1 v2 v3 v4 v6 v5 q5.2) else none else none
set_option maxHeartbeats 4000000 in
set_option maxRecDepth 100000 in
theorem k_X10_rests_46 {g : GT} {X : XT} {t : Int32 × Mem} (C : Cx g X cX10_rests RX10 7 8) (hr : (xt X).sig.returnType = some .int) (hR : Rt g X (some (.int t.1)) t.2) (n : Nat) : ∀ (v1 : Int32) (v2 : Int32) (v3 : Int32) (v4 : Int32) (v5 : Int32) (v6 : Int32) (M : Mem), f_X10_rests_46 n v1 v2 v3 v4 v5 v6 M = some t → Kj g X 7 46 [some (.ref (ga g 27 0)), some (.int v1), some (.int v2), some (.int v3), some (.int v4), some (.int v5), some (.int v6)] [] M := by
  induction n with
  | zero => intro v1 v2 v3 v4 v5 v6 M h; rw [f_X10_rests_46] at h; cases h
  | succ n ih =>
    intro v1 v2 v3 v4 v5 v6 M h
    rw [f_X10_rests_46] at h
    refine kj_ild6 (pc := 46) C dX10_rests_46 ?_
    refine kj_ald0 (pc := 48) C dX10_rests_48 ?_
    refine gf_X10_96 (pc := 49) C dX10_rests_49 ?_
    refine kj_ald0 (pc := 52) C dX10_rests_52 ?_
    refine gf_X10_96 (pc := 53) C dX10_rests_53 ?_
    refine kj_imul (pc := 56) C dX10_rests_56 ?_
    refine kj_icmp_ge (pc := 57) C dX10_rests_57 (tgt := 122) (by decide) (fun c1 => ?_) (fun c1 => ?_)
    · have h := of_pos c1 h
      refine kj_ild3 (pc := 122) C dX10_rests_122 ?_
      refine kj_if_ne (pc := 123) C dX10_rests_123 (tgt := 131) (by decide) (fun c2 => ?_) (fun c2 => ?_)
      · have h := of_neg c2 h
        refine kj_ild5 (pc := 131) C dX10_rests_131 ?_
        exact k_X10_rests_133 C hr hR _ _ _ _ _ _ _ _ _ h
      · have h := of_pos c2 h
        refine kj_ild4 (pc := 126) C dX10_rests_126 ?_
        refine kj_goto (pc := 128) C dX10_rests_128 (tgt := 133) (by decide) ?_
        exact k_X10_rests_133 C hr hR _ _ _ _ _ _ _ _ _ h
    · have h := of_neg c1 h
      refine kj_ald0 (pc := 60) C dX10_rests_60 ?_
      refine kj_ild1 (pc := 61) C dX10_rests_61 ?_
      refine kj_ild2 (pc := 62) C dX10_rests_62 ?_
      refine kj_ild6 (pc := 63) C dX10_rests_63 ?_
      refine kj_ald0 (pc := 65) C dX10_rests_65 ?_
      refine gf_X10_96 (pc := 66) C dX10_rests_66 ?_
      obtain ⟨c3, h⟩ := of_gd h
      refine kj_idiv (pc := 69) C dX10_rests_69 c3 ?_
      refine kj_ild6 (pc := 70) C dX10_rests_70 ?_
      refine kj_ald0 (pc := 72) C dX10_rests_72 ?_
      refine gf_X10_96 (pc := 73) C dX10_rests_73 ?_
      obtain ⟨c4, h⟩ := of_gd h
      refine kj_irem (pc := 76) C dX10_rests_76 c4 ?_
      obtain ⟨q5, eq5, h⟩ := of_bind h
      refine kj_callV1 (pc := 77) C (ct_X10_isRest eq5) (Nat.le_of_ble_eq_true rfl) mi_X10_isRest ml_X10_205 rc_27 rfl rfl ar4 (Nat.le_of_ble_eq_true rfl) dX10_rests_77 ?_
      refine kj_if_eq (pc := 80) C dX10_rests_80 (tgt := 116) (by decide) (fun c6 => ?_) (fun c6 => ?_)
      · have h := of_pos c6 h
        exact k_X10_rests_116 C hr hR ih _ _ _ _ _ _ _ h
      · have h := of_neg c6 h
        refine kj_ild4 (pc := 83) C dX10_rests_83 ?_
        refine kj_if_ne (pc := 85) C dX10_rests_85 (tgt := 109) (by decide) (fun c7 => ?_) (fun c7 => ?_)
        · have h := of_neg c7 h
          refine kj_ild5 (pc := 109) C dX10_rests_109 ?_
          exact k_X10_rests_111 C hr hR ih _ _ _ _ _ _ _ _ h
        · have h := of_pos c7 h
          refine kj_bipush (pc := 88) C (v := 10) dX10_rests_88 cb_10 ?_
          refine kj_ild6 (pc := 90) C dX10_rests_90 ?_
          refine kj_ald0 (pc := 92) C dX10_rests_92 ?_
          refine gf_X10_96 (pc := 93) C dX10_rests_93 ?_
          obtain ⟨c8, h⟩ := of_gd h
          refine kj_idiv (pc := 96) C dX10_rests_96 c8 ?_
          refine kj_imul (pc := 97) C dX10_rests_97 ?_
          refine kj_ild6 (pc := 98) C dX10_rests_98 ?_
          refine kj_ald0 (pc := 100) C dX10_rests_100 ?_
          refine gf_X10_96 (pc := 101) C dX10_rests_101 ?_
          obtain ⟨c9, h⟩ := of_gd h
          refine kj_irem (pc := 104) C dX10_rests_104 c9 ?_
          refine kj_iadd (pc := 105) C dX10_rests_105 ?_
          refine kj_goto (pc := 106) C dX10_rests_106 (tgt := 111) (by decide) ?_
          exact k_X10_rests_111 C hr hR ih _ _ _ _ _ _ _ _ h
def f_X10_rests_33 (M : Mem) : Option (Int32 × Mem) := some (((-2) : Int32), M)
set_option maxHeartbeats 4000000 in
set_option maxRecDepth 100000 in
theorem k_X10_rests_33 {g : GT} {X : XT} {t : Int32 × Mem} (C : Cx g X cX10_rests RX10 7 8) (hr : (xt X).sig.returnType = some .int) (hR : Rt g X (some (.int t.1)) t.2) : ∀ (M : Mem) (w0 w1 w2 w3 w4 w5 w6 : Option Value), f_X10_rests_33 M = some t → Kj g X 7 33 [w0, w1, w2, w3, w4, w5, w6] [] M := by
  intro M w0 w1 w2 w3 w4 w5 w6 h
  unfold f_X10_rests_33 at h
  refine kj_bipush (pc := 33) C (v := (-2)) dX10_rests_33 cb_m2 ?_
  cases h
  exact kj_iret (pc := 35) C hr hR dX10_rests_35
def f_X10_rests_16 (M : Mem) : Option (Int32 × Mem) := some (((-1) : Int32), M)
set_option maxHeartbeats 4000000 in
set_option maxRecDepth 100000 in
theorem k_X10_rests_16 {g : GT} {X : XT} {t : Int32 × Mem} (C : Cx g X cX10_rests RX10 7 8) (hr : (xt X).sig.returnType = some .int) (hR : Rt g X (some (.int t.1)) t.2) : ∀ (M : Mem) (w0 w1 w2 w3 w4 w5 w6 : Option Value), f_X10_rests_16 M = some t → Kj g X 7 16 [w0, w1, w2, w3, w4, w5, w6] [] M := by
  intro M w0 w1 w2 w3 w4 w5 w6 h
  unfold f_X10_rests_16 at h
  refine kj_iconst (pc := 16) C (v := (-1)) dX10_rests_16 ci_m1 ?_
  cases h
  exact kj_iret (pc := 17) C hr hR dX10_rests_17
def f_X10_rests (v1 : Int32) (v2 : Int32) (v3 : Int32) (M : Mem) : Option (Int32 × Mem) := (f_X10_isSinger v1 M).bind (fun q1 => if q1 = 0 then f_X10_rests_16 M else (f_X10_isSinger v2 M).bind (fun q3 => if q3 = 0 then f_X10_rests_16 M else if v1 = v2 then f_X10_rests_33 M else (f_X10_in v3.toInt64 0 1 M).bind (fun q6 => if q6 = 0 then f_X10_rests_33 M else f_X10_rests_46 100 v1 v2 v3 0 (-9) 0 M)))
set_option maxHeartbeats 4000000 in
set_option maxRecDepth 100000 in
theorem ct_X10_rests {g : GT} {l : Launch} {v1 : Int32} {v2 : Int32} {v3 : Int32} {M : Mem} {t : Int32 × Mem} (h : f_X10_rests v1 v2 v3 M = some t) : Ct g l 8 yX10_rests cX10_rests 7 (some .int) [.ref (ga g 27 0), .int v1, .int v2, .int v3] M (some (.int t.1)) t.2 := by
  refine ct_of (k := 3) (by decide) (Nat.le_of_ble_eq_true rfl) rfl (fun X C hl hr hR => ?_)
  subst hl
  have C : Cx g X cX10_rests RX10 7 8 := C
  unfold f_X10_rests at h
  refine kj_ald0 (pc := 0) C dX10_rests_0 ?_
  refine kj_ild1 (pc := 1) C dX10_rests_1 ?_
  obtain ⟨q1, eq1, h⟩ := of_bind h
  refine kj_callV1 (pc := 2) C (ct_X10_isSinger eq1) (Nat.le_of_ble_eq_true rfl) mi_X10_isSinger ml_X10_119 rc_27 rfl rfl ar1 (Nat.le_of_ble_eq_true rfl) dX10_rests_2 ?_
  refine kj_if_eq (pc := 5) C dX10_rests_5 (tgt := 16) (by decide) (fun c2 => ?_) (fun c2 => ?_)
  · have h := of_pos c2 h
    exact k_X10_rests_16 C hr hR  _ _ _ _ _ _ _ _ h
  · have h := of_neg c2 h
    refine kj_ald0 (pc := 8) C dX10_rests_8 ?_
    refine kj_ild2 (pc := 9) C dX10_rests_9 ?_
    obtain ⟨q3, eq3, h⟩ := of_bind h
    refine kj_callV1 (pc := 10) C (ct_X10_isSinger eq3) (Nat.le_of_ble_eq_true rfl) mi_X10_isSinger ml_X10_119 rc_27 rfl rfl ar1 (Nat.le_of_ble_eq_true rfl) dX10_rests_10 ?_
    refine kj_if_ne (pc := 13) C dX10_rests_13 (tgt := 18) (by decide) (fun c4 => ?_) (fun c4 => ?_)
    · have h := of_neg c4 h
      refine kj_ild1 (pc := 18) C dX10_rests_18 ?_
      refine kj_ild2 (pc := 19) C dX10_rests_19 ?_
      refine kj_icmp_eq (pc := 20) C dX10_rests_20 (tgt := 33) (by decide) (fun c5 => ?_) (fun c5 => ?_)
      · have h := of_pos c5 h
        exact k_X10_rests_33 C hr hR  _ _ _ _ _ _ _ _ h
      · have h := of_neg c5 h
        refine kj_ild3 (pc := 23) C dX10_rests_23 ?_
        refine kj_i2l (pc := 24) C dX10_rests_24 ?_
        refine kj_lconst (pc := 25) C (v := 0) dX10_rests_25 cl_0 ?_
        refine kj_lconst (pc := 26) C (v := 1) dX10_rests_26 cl_1 ?_
        obtain ⟨q6, eq6, h⟩ := of_bind h
        refine kj_callS1 (pc := 27) C (ct_X10_in eq6) (Nat.le_of_ble_eq_true rfl) mi_X10_in ml_X10_59 rfl as3 (Nat.le_of_ble_eq_true rfl) dX10_rests_27 ?_
        refine kj_if_ne (pc := 30) C dX10_rests_30 (tgt := 36) (by decide) (fun c7 => ?_) (fun c7 => ?_)
        · have h := of_neg c7 h
          refine kj_iconst (pc := 36) C (v := 0) dX10_rests_36 ci_0 ?_
          refine kj_ist4 (pc := 37) C dX10_rests_37 (Nat.le_of_ble_eq_true rfl) rfl ?_
          refine kj_bipush (pc := 39) C (v := (-9)) dX10_rests_39 cb_m9 ?_
          refine kj_ist5 (pc := 41) C dX10_rests_41 (Nat.le_of_ble_eq_true rfl) rfl ?_
          refine kj_iconst (pc := 43) C (v := 0) dX10_rests_43 ci_0 ?_
          refine kj_ist6 (pc := 44) C dX10_rests_44 (Nat.le_of_ble_eq_true rfl) rfl ?_
          exact k_X10_rests_46 C hr hR 100 _ _ _ _ _ _ _ h
        · have h := of_pos c7 h
          exact k_X10_rests_33 C hr hR  _ _ _ _ _ _ _ _ h
    · have h := of_pos c4 h
      exact k_X10_rests_16 C hr hR  _ _ _ _ _ _ _ _ h
def f_X10_power_4 (M : Mem) (n : Nat) (v0 : Int32) (v1 : Int32) (v2 : Int32) (v3 : Int32) : Option (Int32) := match n with
  | 0 => none
  | n + 1 => if v1 ≤ v3 then some v2 else lt_ (v2 * v0) (fun x2 => lt_ (v3 + 1) (fun x3 => f_X10_power_4 M n v0 v1 x2 x3))
set_option maxHeartbeats 4000000 in
set_option maxRecDepth 100000 in
theorem k_X10_power_4 {g : GT} {X : XT} {M : Mem} {t : Int32} (C : Cx g X cX10_power RX10 4 0) (hr : (xt X).sig.returnType = some .int) (hR : Rt g X (some (.int t)) M) (n : Nat) : ∀ (v0 : Int32) (v1 : Int32) (v2 : Int32) (v3 : Int32), f_X10_power_4 M n v0 v1 v2 v3 = some t → Kj g X 4 4 [some (.int v0), some (.int v1), some (.int v2), some (.int v3)] [] M := by
  induction n with
  | zero => intro v0 v1 v2 v3 h; rw [f_X10_power_4] at h; cases h
  | succ n ih =>
    intro v0 v1 v2 v3 h
    rw [f_X10_power_4] at h
    refine kj_ild3 (pc := 4) C dX10_power_4 ?_
    refine kj_ild1 (pc := 5) C dX10_power_5 ?_
    refine kj_icmp_ge (pc := 6) C dX10_power_6 (tgt := 19) (by decide) (fun c1 => ?_) (fun c1 => ?_)
    · have h := of_pos c1 h
      refine kj_ild2 (pc := 19) C dX10_power_19 ?_
      cases h
      exact kj_iret (pc := 20) C hr hR dX10_power_20
    · have h := of_neg c1 h
      refine kj_ild2 (pc := 9) C dX10_power_9 ?_
      refine kj_ild0 (pc := 10) C dX10_power_10 ?_
      refine kj_imul (pc := 11) C dX10_power_11 ?_
      obtain ⟨x2, ex2, h⟩ := of_lt h
      refine kj_ni ex2 ?_
      refine kj_ist2 (pc := 12) C dX10_power_12 (Nat.le_of_ble_eq_true rfl) rfl ?_
      obtain ⟨x3, ex3, h⟩ := of_lt h
      refine kj_iinc3 (pc := 13) C (v := x3) dX10_power_13 (Nat.le_of_ble_eq_true rfl) rfl (by rw [ex3, ci_1]) ?_
      refine kj_goto (pc := 16) C dX10_power_16 (tgt := 4) (by decide) ?_
      exact ih _ _ _ _ h
def f_X10_power (v0 : Int32) (v1 : Int32) (M : Mem) : Option (Int32) := f_X10_power_4 M 100 v0 v1 1 0
set_option maxHeartbeats 4000000 in
set_option maxRecDepth 100000 in
theorem ct_X10_power {g : GT} {l : Launch} {v0 : Int32} {v1 : Int32} {M : Mem} {t : Int32} (h : f_X10_power v0 v1 M = some t) : Ct g l 0 yX10_power cX10_power 4 (some .int) [.int v0, .int v1] M (some (.int t)) M := by
  refine ct_of (k := 2) (by decide) (Nat.le_of_ble_eq_true rfl) rfl (fun X C hl hr hR => ?_)
  subst hl
  have C : Cx g X cX10_power RX10 4 0 := C
  unfold f_X10_power at h
  refine kj_iconst (pc := 0) C (v := 1) dX10_power_0 ci_1 ?_
  refine kj_ist2 (pc := 1) C dX10_power_1 (Nat.le_of_ble_eq_true rfl) rfl ?_
  refine kj_iconst (pc := 2) C (v := 0) dX10_power_2 ci_0 ?_
  refine kj_ist3 (pc := 3) C dX10_power_3 (Nat.le_of_ble_eq_true rfl) rfl ?_
  exact k_X10_power_4 C hr hR 100 _ _ _ _ h
def f_X10_hoarse_137 (s0 : Int32) (M : Mem) : Option (Int32 × Mem) := some (s0, M)
set_option maxHeartbeats 4000000 in
set_option maxRecDepth 100000 in
theorem k_X10_hoarse_137 {g : GT} {X : XT} {t : Int32 × Mem} (C : Cx g X cX10_hoarse RX10 8 7) (hr : (xt X).sig.returnType = some .int) (hR : Rt g X (some (.int t.1)) t.2) : ∀ (s0 : Int32) (M : Mem) (w0 w1 w2 w3 w4 w5 w6 w7 : Option Value), f_X10_hoarse_137 s0 M = some t → Kj g X 8 137 [w0, w1, w2, w3, w4, w5, w6, w7] [.int s0] M := by
  intro s0 M w0 w1 w2 w3 w4 w5 w6 w7 h
  unfold f_X10_hoarse_137 at h
  cases h
  exact kj_iret (pc := 137) C hr hR dX10_hoarse_137
def f_X10_hoarse_102 (k36 : Int32 → Int32 → Int32 → Int32 → Int32 → Int32 → Mem → Option (Int32 × Mem)) (v1 : Int32) (v2 : Int32) (v3 : Int32) (v5 : Int32) (v6 : Int32) (s0 : Int32) (s1 : Int32) (M : Mem) : Option (Int32 × Mem) := lt_ (s0 + s1) (fun x1 => lt_ (v6 + 1) (fun x2 => k36 v1 v2 v3 x1 v5 x2 M))
set_option maxHeartbeats 4000000 in
set_option maxRecDepth 100000 in
theorem k_X10_hoarse_102 {g : GT} {X : XT} {k36 : Int32 → Int32 → Int32 → Int32 → Int32 → Int32 → Mem → Option (Int32 × Mem)} {t : Int32 × Mem} (C : Cx g X cX10_hoarse RX10 8 7) (hr : (xt X).sig.returnType = some .int) (hR : Rt g X (some (.int t.1)) t.2) (hk36 : ∀ (v1 : Int32) (v2 : Int32) (v3 : Int32) (v4 : Int32) (v5 : Int32) (v6 : Int32) (M : Mem) (w7 : Option Value), k36 v1 v2 v3 v4 v5 v6 M = some t → Kj g X 8 36 [some (.ref (ga g 27 0)), some (.int v1), some (.int v2), some (.int v3), some (.int v4), some (.int v5), some (.int v6), w7] [] M) : ∀ (v1 : Int32) (v2 : Int32) (v3 : Int32) (v5 : Int32) (v6 : Int32) (s0 : Int32) (s1 : Int32) (M : Mem) (w4 w7 : Option Value), f_X10_hoarse_102 k36 v1 v2 v3 v5 v6 s0 s1 M = some t → Kj g X 8 102 [some (.ref (ga g 27 0)), some (.int v1), some (.int v2), some (.int v3), w4, some (.int v5), some (.int v6), w7] [.int s1, .int s0] M := by
  intro v1 v2 v3 v5 v6 s0 s1 M w4 w7 h
  unfold f_X10_hoarse_102 at h
  refine kj_iadd (pc := 102) C dX10_hoarse_102 ?_
  obtain ⟨x1, ex1, h⟩ := of_lt h
  refine kj_ni ex1 ?_
  refine kj_ist4 (pc := 103) C dX10_hoarse_103 (Nat.le_of_ble_eq_true rfl) rfl ?_
  obtain ⟨x2, ex2, h⟩ := of_lt h
  refine kj_iinc6 (pc := 105) C (v := x2) dX10_hoarse_105 (Nat.le_of_ble_eq_true rfl) rfl (by rw [ex2, ci_1]) ?_
  refine kj_goto (pc := 108) C dX10_hoarse_108 (tgt := 36) (by decide) ?_
  exact hk36 _ _ _ _ _ _ _ _ h
def f_X10_hoarse_36 (n : Nat) (v1 : Int32) (v2 : Int32) (v3 : Int32) (v4 : Int32) (v5 : Int32) (v6 : Int32) (M : Mem) : Option (Int32 × Mem) := match n with
  | 0 => none
  | n + 1 => if ((1 : Int32) <<< ((M.1 27 0 0) &&& 31)) ≤ v6 then (f_X10_common v4 v5 M).bind (fun q2 => if v3 = 0 then if ¬ q2 = 0 then f_X10_hoarse_137 (v5 / q2) M else none else if ¬ q2 = 0 then f_X10_hoarse_137 (v4 / q2) M else none) else (f_X10_ones v6 M).bind (fun q6 => (f_X10_power ((10 : Int32) - v2) q6 M).bind (fun q7 => (f_X10_ones v6 M).bind (fun q8 => (f_X10_power v2 ((M.1 27 0 0) - q8) M).bind (fun q9 => lt_ (q7 * q9) (fun x10 => lt_ (v5 + x10) (fun x11 => (f_X10_notesOf v6 v1 M).bind (fun q12 => if 2 ≤ q12.1 then f_X10_hoarse_102 (f_X10_hoarse_36 n) v1 v2 v3 x11 v6 v4 0 q12.2 else f_X10_hoarse_102 (f_X10_hoarse_36 n) v1 v2 v3 x11 v6 v4 x10 q12.2)))))))
set_option maxHeartbeats 4000000 in
set_option maxRecDepth 100000 in
theorem k_X10_hoarse_36 {g : GT} {X : XT} {t : Int32 × Mem} (C : Cx g X cX10_hoarse RX10 8 7) (hr : (xt X).sig.returnType = some .int) (hR : Rt g X (some (.int t.1)) t.2) (n : Nat) : ∀ (v1 : Int32) (v2 : Int32) (v3 : Int32) (v4 : Int32) (v5 : Int32) (v6 : Int32) (M : Mem) (w7 : Option Value), f_X10_hoarse_36 n v1 v2 v3 v4 v5 v6 M = some t → Kj g X 8 36 [some (.ref (ga g 27 0)), some (.int v1), some (.int v2), some (.int v3), some (.int v4), some (.int v5), some (.int v6), w7] [] M := by
  induction n with
  | zero => intro v1 v2 v3 v4 v5 v6 M w7 h; rw [f_X10_hoarse_36] at h; cases h
  | succ n ih =>
    intro v1 v2 v3 v4 v5 v6 M w7 h
    rw [f_X10_hoarse_36] at h
    refine kj_ild6 (pc := 36) C dX10_hoarse_36 ?_
    refine kj_iconst (pc := 38) C (v := 1) dX10_hoarse_38 ci_1 ?_
    refine kj_ald0 (pc := 39) C dX10_hoarse_39 ?_
    refine gf_X10_96 (pc := 40) C dX10_hoarse_40 ?_
    refine kj_ishl (pc := 43) C dX10_hoarse_43 ?_
    refine kj_icmp_ge (pc := 44) C dX10_hoarse_44 (tgt := 111) (by decide) (fun c1 => ?_) (fun c1 => ?_)
    · have h := of_pos c1 h
      refine kj_ild4 (pc := 111) C dX10_hoarse_111 ?_
      refine kj_ild5 (pc := 113) C dX10_hoarse_113 ?_
      obtain ⟨q2, eq2, h⟩ := of_bind h
      refine kj_callS1 (pc := 115) C (ct_X10_common eq2) (Nat.le_of_ble_eq_true rfl) mi_X10_common ml_X10_199 rfl as2 (Nat.le_of_ble_eq_true rfl) dX10_hoarse_115 ?_
      refine kj_ist6 (pc := 118) C dX10_hoarse_118 (Nat.le_of_ble_eq_true rfl) rfl ?_
      refine kj_ild3 (pc := 120) C dX10_hoarse_120 ?_
      refine kj_if_eq (pc := 121) C dX10_hoarse_121 (tgt := 132) (by decide) (fun c3 => ?_) (fun c3 => ?_)
      · have h := of_pos c3 h
        refine kj_ild5 (pc := 132) C dX10_hoarse_132 ?_
        refine kj_ild6 (pc := 134) C dX10_hoarse_134 ?_
        obtain ⟨c4, h⟩ := of_gd h
        refine kj_idiv (pc := 136) C dX10_hoarse_136 c4 ?_
        exact k_X10_hoarse_137 C hr hR _ _ _ _ _ _ _ _ _ _ h
      · have h := of_neg c3 h
        refine kj_ild4 (pc := 124) C dX10_hoarse_124 ?_
        refine kj_ild6 (pc := 126) C dX10_hoarse_126 ?_
        obtain ⟨c5, h⟩ := of_gd h
        refine kj_idiv (pc := 128) C dX10_hoarse_128 c5 ?_
        refine kj_goto (pc := 129) C dX10_hoarse_129 (tgt := 137) (by decide) ?_
        exact k_X10_hoarse_137 C hr hR _ _ _ _ _ _ _ _ _ _ h
    · have h := of_neg c1 h
      refine kj_bipush (pc := 47) C (v := 10) dX10_hoarse_47 cb_10 ?_
      refine kj_ild2 (pc := 49) C dX10_hoarse_49 ?_
      refine kj_isub (pc := 50) C dX10_hoarse_50 ?_
      refine kj_ild6 (pc := 51) C dX10_hoarse_51 ?_
      obtain ⟨q6, eq6, h⟩ := of_bind h
      refine kj_callS1 (pc := 53) C (ct_X10_ones eq6) (Nat.le_of_ble_eq_true rfl) mi_X10_ones ml_X10_140 rfl as1 (Nat.le_of_ble_eq_true rfl) dX10_hoarse_53 ?_
      obtain ⟨q7, eq7, h⟩ := of_bind h
      refine kj_callS1 (pc := 56) C (ct_X10_power eq7) (Nat.le_of_ble_eq_true rfl) mi_X10_power ml_X10_211 rfl as2 (Nat.le_of_ble_eq_true rfl) dX10_hoarse_56 ?_
      refine kj_ild2 (pc := 59) C dX10_hoarse_59 ?_
      refine kj_ald0 (pc := 60) C dX10_hoarse_60 ?_
      refine gf_X10_96 (pc := 61) C dX10_hoarse_61 ?_
      refine kj_ild6 (pc := 64) C dX10_hoarse_64 ?_
      obtain ⟨q8, eq8, h⟩ := of_bind h
      refine kj_callS1 (pc := 66) C (ct_X10_ones eq8) (Nat.le_of_ble_eq_true rfl) mi_X10_ones ml_X10_140 rfl as1 (Nat.le_of_ble_eq_true rfl) dX10_hoarse_66 ?_
      refine kj_isub (pc := 69) C dX10_hoarse_69 ?_
      obtain ⟨q9, eq9, h⟩ := of_bind h
      refine kj_callS1 (pc := 70) C (ct_X10_power eq9) (Nat.le_of_ble_eq_true rfl) mi_X10_power ml_X10_211 rfl as2 (Nat.le_of_ble_eq_true rfl) dX10_hoarse_70 ?_
      refine kj_imul (pc := 73) C dX10_hoarse_73 ?_
      obtain ⟨x10, ex10, h⟩ := of_lt h
      refine kj_ni ex10 ?_
      refine kj_ist7 (pc := 74) C dX10_hoarse_74 (Nat.le_of_ble_eq_true rfl) rfl ?_
      refine kj_ild5 (pc := 76) C dX10_hoarse_76 ?_
      refine kj_ild7 (pc := 78) C dX10_hoarse_78 ?_
      refine kj_iadd (pc := 80) C dX10_hoarse_80 ?_
      obtain ⟨x11, ex11, h⟩ := of_lt h
      refine kj_ni ex11 ?_
      refine kj_ist5 (pc := 81) C dX10_hoarse_81 (Nat.le_of_ble_eq_true rfl) rfl ?_
      refine kj_ild4 (pc := 83) C dX10_hoarse_83 ?_
      refine kj_ald0 (pc := 85) C dX10_hoarse_85 ?_
      refine kj_ild6 (pc := 86) C dX10_hoarse_86 ?_
      refine kj_ild1 (pc := 88) C dX10_hoarse_88 ?_
      obtain ⟨q12, eq12, h⟩ := of_bind h
      refine kj_callV1 (pc := 89) C (ct_X10_notesOf eq12) (Nat.le_of_ble_eq_true rfl) mi_X10_notesOf ml_X10_196 rc_27 rfl rfl ar2 (Nat.le_of_ble_eq_true rfl) dX10_hoarse_89 ?_
      refine kj_iconst (pc := 92) C (v := 2) dX10_hoarse_92 ci_2 ?_
      refine kj_icmp_ge (pc := 93) C dX10_hoarse_93 (tgt := 101) (by decide) (fun c13 => ?_) (fun c13 => ?_)
      · have h := of_pos c13 h
        refine kj_iconst (pc := 101) C (v := 0) dX10_hoarse_101 ci_0 ?_
        exact k_X10_hoarse_102 C hr hR ih _ _ _ _ _ _ _ _ _ _ h
      · have h := of_neg c13 h
        refine kj_ild7 (pc := 96) C dX10_hoarse_96 ?_
        refine kj_goto (pc := 98) C dX10_hoarse_98 (tgt := 102) (by decide) ?_
        exact k_X10_hoarse_102 C hr hR ih _ _ _ _ _ _ _ _ _ _ h
def f_X10_hoarse_24 (M : Mem) : Option (Int32 × Mem) := some (((-2) : Int32), M)
set_option maxHeartbeats 4000000 in
set_option maxRecDepth 100000 in
theorem k_X10_hoarse_24 {g : GT} {X : XT} {t : Int32 × Mem} (C : Cx g X cX10_hoarse RX10 8 7) (hr : (xt X).sig.returnType = some .int) (hR : Rt g X (some (.int t.1)) t.2) : ∀ (M : Mem) (w0 w1 w2 w3 w4 w5 w6 w7 : Option Value), f_X10_hoarse_24 M = some t → Kj g X 8 24 [w0, w1, w2, w3, w4, w5, w6, w7] [] M := by
  intro M w0 w1 w2 w3 w4 w5 w6 w7 h
  unfold f_X10_hoarse_24 at h
  refine kj_bipush (pc := 24) C (v := (-2)) dX10_hoarse_24 cb_m2 ?_
  cases h
  exact kj_iret (pc := 26) C hr hR dX10_hoarse_26
def f_X10_hoarse (v1 : Int32) (v2 : Int32) (v3 : Int32) (M : Mem) : Option (Int32 × Mem) := (f_X10_in v1.toInt64 0 9 M).bind (fun q1 => if q1 = 0 then f_X10_hoarse_24 M else (f_X10_in v2.toInt64 0 10 M).bind (fun q3 => if q3 = 0 then f_X10_hoarse_24 M else f_X10_hoarse_36 100 v1 v2 v3 0 0 0 M))
set_option maxHeartbeats 4000000 in
set_option maxRecDepth 100000 in
theorem ct_X10_hoarse {g : GT} {l : Launch} {v1 : Int32} {v2 : Int32} {v3 : Int32} {M : Mem} {t : Int32 × Mem} (h : f_X10_hoarse v1 v2 v3 M = some t) : Ct g l 7 yX10_hoarse cX10_hoarse 8 (some .int) [.ref (ga g 27 0), .int v1, .int v2, .int v3] M (some (.int t.1)) t.2 := by
  refine ct_of (k := 4) (by decide) (Nat.le_of_ble_eq_true rfl) rfl (fun X C hl hr hR => ?_)
  subst hl
  have C : Cx g X cX10_hoarse RX10 8 7 := C
  unfold f_X10_hoarse at h
  refine kj_ild1 (pc := 0) C dX10_hoarse_0 ?_
  refine kj_i2l (pc := 1) C dX10_hoarse_1 ?_
  refine kj_lconst (pc := 2) C (v := 0) dX10_hoarse_2 cl_0 ?_
  refine kj_ldc2 (pc := 3) C cn_X10_72 dX10_hoarse_3 ?_
  obtain ⟨q1, eq1, h⟩ := of_bind h
  refine kj_callS1 (pc := 6) C (ct_X10_in eq1) (Nat.le_of_ble_eq_true rfl) mi_X10_in ml_X10_59 rfl as3 (Nat.le_of_ble_eq_true rfl) dX10_hoarse_6 ?_
  refine kj_if_eq (pc := 9) C dX10_hoarse_9 (tgt := 24) (by decide) (fun c2 => ?_) (fun c2 => ?_)
  · have h := of_pos c2 h
    exact k_X10_hoarse_24 C hr hR  _ _ _ _ _ _ _ _ _ h
  · have h := of_neg c2 h
    refine kj_ild2 (pc := 12) C dX10_hoarse_12 ?_
    refine kj_i2l (pc := 13) C dX10_hoarse_13 ?_
    refine kj_lconst (pc := 14) C (v := 0) dX10_hoarse_14 cl_0 ?_
    refine kj_ldc2 (pc := 15) C cn_X10_209 dX10_hoarse_15 ?_
    obtain ⟨q3, eq3, h⟩ := of_bind h
    refine kj_callS1 (pc := 18) C (ct_X10_in eq3) (Nat.le_of_ble_eq_true rfl) mi_X10_in ml_X10_59 rfl as3 (Nat.le_of_ble_eq_true rfl) dX10_hoarse_18 ?_
    refine kj_if_ne (pc := 21) C dX10_hoarse_21 (tgt := 27) (by decide) (fun c4 => ?_) (fun c4 => ?_)
    · have h := of_neg c4 h
      refine kj_iconst (pc := 27) C (v := 0) dX10_hoarse_27 ci_0 ?_
      refine kj_ist4 (pc := 28) C dX10_hoarse_28 (Nat.le_of_ble_eq_true rfl) rfl ?_
      refine kj_iconst (pc := 30) C (v := 0) dX10_hoarse_30 ci_0 ?_
      refine kj_ist5 (pc := 31) C dX10_hoarse_31 (Nat.le_of_ble_eq_true rfl) rfl ?_
      refine kj_iconst (pc := 33) C (v := 0) dX10_hoarse_33 ci_0 ?_
      refine kj_ist6 (pc := 34) C dX10_hoarse_34 (Nat.le_of_ble_eq_true rfl) rfl ?_
      exact k_X10_hoarse_36 C hr hR 100 _ _ _ _ _ _ _ _ h
    · have h := of_pos c4 h
      exact k_X10_hoarse_24 C hr hR  _ _ _ _ _ _ _ _ _ h
def f_X10_seed (v1 : Int64) (M : Mem) : Option (Int64 × Mem) := lt_ (M.2 27) (fun x1 => lt_ (sl M 27 v1) (fun M2 => some (x1, M2)))
set_option maxHeartbeats 4000000 in
set_option maxRecDepth 100000 in
theorem ct_X10_seed {g : GT} {l : Launch} {v1 : Int64} {M : Mem} {t : Int64 × Mem} (h : f_X10_seed v1 M = some t) : Ct g l 0 yX10_seed cX10_seed 5 (some .long) [.ref (ga g 27 0), .long v1] M (some (.long t.1)) t.2 := by
  refine ct_of (k := 2) (by decide) (Nat.le_of_ble_eq_true rfl) rfl (fun X C hl hr hR => ?_)
  subst hl
  have C : Cx g X cX10_seed RX10 5 0 := C
  unfold f_X10_seed at h
  refine kj_ald0 (pc := 0) C dX10_seed_0 ?_
  refine gf_X10_214 (pc := 1) C dX10_seed_1 ?_
  obtain ⟨x1, ex1, h⟩ := of_lt h
  refine kj_nlg ex1 ?_
  refine kj_lst3 (pc := 4) C dX10_seed_4 (Nat.le_of_ble_eq_true rfl) rfl ?_
  refine kj_ald0 (pc := 5) C dX10_seed_5 ?_
  refine kj_lld1 (pc := 6) C dX10_seed_6 ?_
  obtain ⟨M2, eM2, h⟩ := of_lt h
  refine pf_X10_214 (pc := 7) C dX10_seed_7 ?_
  refine kj_nM eM2 ?_
  refine kj_lld3 (pc := 10) C dX10_seed_10 ?_
  cases h
  exact kj_lret (pc := 11) C hr hR dX10_seed_11
