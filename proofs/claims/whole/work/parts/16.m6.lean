def f_X10_passOn_30 (n : Nat) (v1 : Int32) (v2 : Int32) (M : Mem) : Option (Mem) := match n with
  | 0 => none
  | n + 1 => if (M.1 27 0 0) ≤ v2 then lt_ (((20 : Int32) * v1) + (19 : Int32)) (fun x3 => if ¬ (x3 < 0 ∨ 40 ≤ x3.toNatClampNeg) then lt_ (((20 : Int32) * v1) + (19 : Int32)) (fun x5 => if ¬ (x5 < 0 ∨ 40 ≤ x5.toNatClampNeg) then lt_ (sw M 27 4 x5.toNatClampNeg ((M.1 27 4 x3.toNatClampNeg) + (1 : Int32))) (fun M6 => some M6) else none) else none) else if ¬ (v2 < 0 ∨ 6 ≤ v2.toNatClampNeg) then lt_ ((((20 : Int32) * v1) + (12 : Int32)) + v2) (fun x9 => if ¬ (x9 < 0 ∨ 40 ≤ x9.toNatClampNeg) then lt_ (sw M 27 4 x9.toNatClampNeg (M.1 27 7 v2.toNatClampNeg)) (fun M10 => lt_ (v2 + 1) (fun x11 => f_X10_passOn_30 n v1 x11 M10)) else none) else none
set_option maxHeartbeats 4000000 in
set_option maxRecDepth 100000 in
theorem k_X10_passOn_30 {g : GT} {X : XT} {t : Mem} (C : Cx g X cX10_passOn RX10 3 4) (hr : (xt X).sig.returnType = none) (hR : Rt g X none t) (n : Nat) : ∀ (v1 : Int32) (v2 : Int32) (M : Mem), f_X10_passOn_30 n v1 v2 M = some t → Kj g X 3 30 [some (.ref (ga g 27 0)), some (.int v1), some (.int v2)] [] M := by
  induction n with
  | zero => intro v1 v2 M h; rw [f_X10_passOn_30] at h; cases h
  | succ n ih =>
    intro v1 v2 M h
    rw [f_X10_passOn_30] at h
    refine kj_ild2 (pc := 30) C dX10_passOn_30 ?_
    refine kj_ald0 (pc := 31) C dX10_passOn_31 ?_
    refine gf_X10_96 (pc := 32) C dX10_passOn_32 ?_
    refine kj_icmp_ge (pc := 35) C dX10_passOn_35 (tgt := 64) (by decide) (fun c1 => ?_) (fun c1 => ?_)
    · have h := of_pos c1 h
      refine kj_ald0 (pc := 64) C dX10_passOn_64 ?_
      refine gf_X10_19 (pc := 65) C dX10_passOn_65 ?_
      refine kj_bipush (pc := 68) C (v := 20) dX10_passOn_68 cb_20 ?_
      refine kj_ild1 (pc := 70) C dX10_passOn_70 ?_
      refine kj_imul (pc := 71) C dX10_passOn_71 ?_
      refine kj_bipush (pc := 72) C (v := 19) dX10_passOn_72 cb_19 ?_
      refine kj_iadd (pc := 74) C dX10_passOn_74 ?_
      refine kj_dup2 (pc := 75) C dX10_passOn_75 rfl rfl ?_
      obtain ⟨x3, ex3, h⟩ := of_lt h
      refine kj_ni ex3 ?_
      obtain ⟨c2, h⟩ := of_gd h
      refine kj_iald2 (pc := 76) C ia_27_4 c2 dX10_passOn_76 ?_
      refine kj_iconst (pc := 77) C (v := 1) dX10_passOn_77 ci_1 ?_
      refine kj_iadd (pc := 78) C dX10_passOn_78 ?_
      obtain ⟨x5, ex5, h⟩ := of_lt h
      refine kj_ni2 ex5 ?_
      obtain ⟨c4, h⟩ := of_gd h
      obtain ⟨M6, eM6, h⟩ := of_lt h
      refine kj_iast2 (pc := 79) C ia_27_4 c4 dX10_passOn_79 ?_
      refine kj_nM eM6 ?_
      cases h
      exact kj_vret (pc := 80) C hr hR dX10_passOn_80
    · have h := of_neg c1 h
      refine kj_ald0 (pc := 38) C dX10_passOn_38 ?_
      refine gf_X10_19 (pc := 39) C dX10_passOn_39 ?_
      refine kj_bipush (pc := 42) C (v := 20) dX10_passOn_42 cb_20 ?_
      refine kj_ild1 (pc := 44) C dX10_passOn_44 ?_
      refine kj_imul (pc := 45) C dX10_passOn_45 ?_
      refine kj_bipush (pc := 46) C (v := 12) dX10_passOn_46 cb_12 ?_
      refine kj_iadd (pc := 48) C dX10_passOn_48 ?_
      refine kj_ild2 (pc := 49) C dX10_passOn_49 ?_
      refine kj_iadd (pc := 50) C dX10_passOn_50 ?_
      refine kj_ald0 (pc := 51) C dX10_passOn_51 ?_
      refine gf_X10_32 (pc := 52) C dX10_passOn_52 ?_
      refine kj_ild2 (pc := 55) C dX10_passOn_55 ?_
      obtain ⟨c7, h⟩ := of_gd h
      refine kj_iald2 (pc := 56) C ia_27_7 c7 dX10_passOn_56 ?_
      obtain ⟨x9, ex9, h⟩ := of_lt h
      refine kj_ni2 ex9 ?_
      obtain ⟨c8, h⟩ := of_gd h
      obtain ⟨M10, eM10, h⟩ := of_lt h
      refine kj_iast2 (pc := 57) C ia_27_4 c8 dX10_passOn_57 ?_
      refine kj_nM eM10 ?_
      obtain ⟨x11, ex11, h⟩ := of_lt h
      refine kj_iinc2 (pc := 58) C (v := x11) dX10_passOn_58 (Nat.le_of_ble_eq_true rfl) rfl (by rw [ex11, ci_1]) ?_
      refine kj_goto (pc := 61) C dX10_passOn_61 (tgt := 30) (by decide) ?_
      exact ih _ _ _ h
def f_X10_passOn_2 (n : Nat) (v1 : Int32) (v2 : Int32) (M : Mem) : Option (Mem) := match n with
  | 0 => none
  | n + 1 => if (M.1 27 0 0) ≤ v2 then f_X10_passOn_30 100 v1 0 M else (f_X10_noteThen v1 v2 M).bind (fun q2 => if ¬ (v2 < 0 ∨ 6 ≤ v2.toNatClampNeg) then lt_ (sw M 27 7 v2.toNatClampNeg q2) (fun M4 => lt_ (v2 + 1) (fun x5 => f_X10_passOn_2 n v1 x5 M4)) else none)
set_option maxHeartbeats 4000000 in
set_option maxRecDepth 100000 in
theorem k_X10_passOn_2 {g : GT} {X : XT} {t : Mem} (C : Cx g X cX10_passOn RX10 3 4) (hr : (xt X).sig.returnType = none) (hR : Rt g X none t) (n : Nat) : ∀ (v1 : Int32) (v2 : Int32) (M : Mem), f_X10_passOn_2 n v1 v2 M = some t → Kj g X 3 2 [some (.ref (ga g 27 0)), some (.int v1), some (.int v2)] [] M := by
  induction n with
  | zero => intro v1 v2 M h; rw [f_X10_passOn_2] at h; cases h
  | succ n ih =>
    intro v1 v2 M h
    rw [f_X10_passOn_2] at h
    refine kj_ild2 (pc := 2) C dX10_passOn_2 ?_
    refine kj_ald0 (pc := 3) C dX10_passOn_3 ?_
    refine gf_X10_96 (pc := 4) C dX10_passOn_4 ?_
    refine kj_icmp_ge (pc := 7) C dX10_passOn_7 (tgt := 28) (by decide) (fun c1 => ?_) (fun c1 => ?_)
    · have h := of_pos c1 h
      refine kj_iconst (pc := 28) C (v := 0) dX10_passOn_28 ci_0 ?_
      refine kj_ist2 (pc := 29) C dX10_passOn_29 (Nat.le_of_ble_eq_true rfl) rfl ?_
      exact k_X10_passOn_30 C hr hR 100 _ _ _ h
    · have h := of_neg c1 h
      refine kj_ald0 (pc := 10) C dX10_passOn_10 ?_
      refine gf_X10_32 (pc := 11) C dX10_passOn_11 ?_
      refine kj_ild2 (pc := 14) C dX10_passOn_14 ?_
      refine kj_ald0 (pc := 15) C dX10_passOn_15 ?_
      refine kj_ild1 (pc := 16) C dX10_passOn_16 ?_
      refine kj_ild2 (pc := 17) C dX10_passOn_17 ?_
      obtain ⟨q2, eq2, h⟩ := of_bind h
      refine kj_callV1 (pc := 18) C (ct_X10_noteThen eq2) (Nat.le_of_ble_eq_true rfl) mi_X10_noteThen ml_X10_116 rc_27 rfl rfl ar2 (Nat.le_of_ble_eq_true rfl) dX10_passOn_18 ?_
      obtain ⟨c3, h⟩ := of_gd h
      obtain ⟨M4, eM4, h⟩ := of_lt h
      refine kj_iast2 (pc := 21) C ia_27_7 c3 dX10_passOn_21 ?_
      refine kj_nM eM4 ?_
      obtain ⟨x5, ex5, h⟩ := of_lt h
      refine kj_iinc2 (pc := 22) C (v := x5) dX10_passOn_22 (Nat.le_of_ble_eq_true rfl) rfl (by rw [ex5, ci_1]) ?_
      refine kj_goto (pc := 25) C dX10_passOn_25 (tgt := 2) (by decide) ?_
      exact ih _ _ _ h
def f_X10_passOn (v1 : Int32) (M : Mem) : Option (Mem) := f_X10_passOn_2 100 v1 0 M
set_option maxHeartbeats 4000000 in
set_option maxRecDepth 100000 in
theorem ct_X10_passOn {g : GT} {l : Launch} {v1 : Int32} {M : Mem} {t : Mem} (h : f_X10_passOn v1 M = some t) : Ct g l 4 yX10_passOn cX10_passOn 3 (none) [.ref (ga g 27 0), .int v1] M (none) t := by
  refine ct_of (k := 1) (by decide) (Nat.le_of_ble_eq_true rfl) rfl (fun X C hl hr hR => ?_)
  subst hl
  have C : Cx g X cX10_passOn RX10 3 4 := C
  unfold f_X10_passOn at h
  refine kj_iconst (pc := 0) C (v := 0) dX10_passOn_0 ci_0 ?_
  refine kj_ist2 (pc := 1) C dX10_passOn_1 (Nat.le_of_ble_eq_true rfl) rfl ?_
  exact k_X10_passOn_2 C hr hR 100 _ _ _ h
def f_X10_notesOn_44 (M : Mem) (k4 : Int32 → Int32 → Int32 → Option (Int32)) (v1 : Int32) (v3 : Int32) (s0 : Int32) (s1 : Int32) : Option (Int32) := lt_ (s0 ||| s1) (fun x1 => lt_ (v3 + 1) (fun x2 => k4 v1 x1 x2))
set_option maxHeartbeats 4000000 in
set_option maxRecDepth 100000 in
theorem k_X10_notesOn_44 {g : GT} {X : XT} {M : Mem} {k4 : Int32 → Int32 → Int32 → Option (Int32)} {t : Int32} (C : Cx g X cX10_notesOn RX10 4 1) (hr : (xt X).sig.returnType = some .int) (hR : Rt g X (some (.int t)) M) (hk4 : ∀ (v1 : Int32) (v2 : Int32) (v3 : Int32), k4 v1 v2 v3 = some t → Kj g X 4 4 [some (.ref (ga g 27 0)), some (.int v1), some (.int v2), some (.int v3)] [] M) : ∀ (v1 : Int32) (v3 : Int32) (s0 : Int32) (s1 : Int32) (w2 : Option Value), f_X10_notesOn_44 M k4 v1 v3 s0 s1 = some t → Kj g X 4 44 [some (.ref (ga g 27 0)), some (.int v1), w2, some (.int v3)] [.int s1, .int s0] M := by
  intro v1 v3 s0 s1 w2 h
  unfold f_X10_notesOn_44 at h
  refine kj_ior (pc := 44) C dX10_notesOn_44 ?_
  obtain ⟨x1, ex1, h⟩ := of_lt h
  refine kj_ni ex1 ?_
  refine kj_ist2 (pc := 45) C dX10_notesOn_45 (Nat.le_of_ble_eq_true rfl) rfl ?_
  obtain ⟨x2, ex2, h⟩ := of_lt h
  refine kj_iinc3 (pc := 46) C (v := x2) dX10_notesOn_46 (Nat.le_of_ble_eq_true rfl) rfl (by rw [ex2, ci_1]) ?_
  refine kj_goto (pc := 49) C dX10_notesOn_49 (tgt := 4) (by decide) ?_
  exact hk4 _ _ _ h
def f_X10_notesOn_4 (M : Mem) (n : Nat) (v1 : Int32) (v2 : Int32) (v3 : Int32) : Option (Int32) := match n with
  | 0 => none
  | n + 1 => if (M.1 27 0 0) ≤ v3 then some v2 else (f_X10_has (M.1 27 0 12) v3 M).bind (fun q2 => if q2 = 0 then f_X10_notesOn_44 M (f_X10_notesOn_4 M n) v1 v3 v2 0 else lt_ ((((20 : Int32) * v1) + (12 : Int32)) + v3) (fun x5 => if ¬ (x5 < 0 ∨ 40 ≤ x5.toNatClampNeg) then f_X10_notesOn_44 M (f_X10_notesOn_4 M n) v1 v3 v2 ((1 : Int32) <<< ((M.1 27 4 x5.toNatClampNeg) &&& 31)) else none))
set_option maxHeartbeats 4000000 in
set_option maxRecDepth 100000 in
theorem k_X10_notesOn_4 {g : GT} {X : XT} {M : Mem} {t : Int32} (C : Cx g X cX10_notesOn RX10 4 1) (hr : (xt X).sig.returnType = some .int) (hR : Rt g X (some (.int t)) M) (n : Nat) : ∀ (v1 : Int32) (v2 : Int32) (v3 : Int32), f_X10_notesOn_4 M n v1 v2 v3 = some t → Kj g X 4 4 [some (.ref (ga g 27 0)), some (.int v1), some (.int v2), some (.int v3)] [] M := by
  induction n with
  | zero => intro v1 v2 v3 h; rw [f_X10_notesOn_4] at h; cases h
  | succ n ih =>
    intro v1 v2 v3 h
    rw [f_X10_notesOn_4] at h
    refine kj_ild3 (pc := 4) C dX10_notesOn_4 ?_
    refine kj_ald0 (pc := 5) C dX10_notesOn_5 ?_
    refine gf_X10_96 (pc := 6) C dX10_notesOn_6 ?_
    refine kj_icmp_ge (pc := 9) C dX10_notesOn_9 (tgt := 52) (by decide) (fun c1 => ?_) (fun c1 => ?_)
    · have h := of_pos c1 h
      refine kj_ild2 (pc := 52) C dX10_notesOn_52 ?_
      cases h
      exact kj_iret (pc := 53) C hr hR dX10_notesOn_53
    · have h := of_neg c1 h
      refine kj_ild2 (pc := 12) C dX10_notesOn_12 ?_
      refine kj_ald0 (pc := 13) C dX10_notesOn_13 ?_
      refine gf_X10_28 (pc := 14) C dX10_notesOn_14 ?_
      refine kj_ild3 (pc := 17) C dX10_notesOn_17 ?_
      obtain ⟨q2, eq2, h⟩ := of_bind h
      refine kj_callS1 (pc := 18) C (ct_X10_has eq2) (Nat.le_of_ble_eq_true rfl) mi_X10_has ml_X10_74 rfl as2 (Nat.le_of_ble_eq_true rfl) dX10_notesOn_18 ?_
      refine kj_if_eq (pc := 21) C dX10_notesOn_21 (tgt := 43) (by decide) (fun c3 => ?_) (fun c3 => ?_)
      · have h := of_pos c3 h
        refine kj_iconst (pc := 43) C (v := 0) dX10_notesOn_43 ci_0 ?_
        exact k_X10_notesOn_44 C hr hR ih _ _ _ _ _ h
      · have h := of_neg c3 h
        refine kj_iconst (pc := 24) C (v := 1) dX10_notesOn_24 ci_1 ?_
        refine kj_ald0 (pc := 25) C dX10_notesOn_25 ?_
        refine gf_X10_19 (pc := 26) C dX10_notesOn_26 ?_
        refine kj_bipush (pc := 29) C (v := 20) dX10_notesOn_29 cb_20 ?_
        refine kj_ild1 (pc := 31) C dX10_notesOn_31 ?_
        refine kj_imul (pc := 32) C dX10_notesOn_32 ?_
        refine kj_bipush (pc := 33) C (v := 12) dX10_notesOn_33 cb_12 ?_
        refine kj_iadd (pc := 35) C dX10_notesOn_35 ?_
        refine kj_ild3 (pc := 36) C dX10_notesOn_36 ?_
        refine kj_iadd (pc := 37) C dX10_notesOn_37 ?_
        obtain ⟨x5, ex5, h⟩ := of_lt h
        refine kj_ni ex5 ?_
        obtain ⟨c4, h⟩ := of_gd h
        refine kj_iald2 (pc := 38) C ia_27_4 c4 dX10_notesOn_38 ?_
        refine kj_ishl (pc := 39) C dX10_notesOn_39 ?_
        refine kj_goto (pc := 40) C dX10_notesOn_40 (tgt := 44) (by decide) ?_
        exact k_X10_notesOn_44 C hr hR ih _ _ _ _ _ h
def f_X10_notesOn (v1 : Int32) (M : Mem) : Option (Int32) := f_X10_notesOn_4 M 100 v1 0 0
set_option maxHeartbeats 4000000 in
set_option maxRecDepth 100000 in
theorem ct_X10_notesOn {g : GT} {l : Launch} {v1 : Int32} {M : Mem} {t : Int32} (h : f_X10_notesOn v1 M = some t) : Ct g l 1 yX10_notesOn cX10_notesOn 4 (some .int) [.ref (ga g 27 0), .int v1] M (some (.int t)) M := by
  refine ct_of (k := 2) (by decide) (Nat.le_of_ble_eq_true rfl) rfl (fun X C hl hr hR => ?_)
  subst hl
  have C : Cx g X cX10_notesOn RX10 4 1 := C
  unfold f_X10_notesOn at h
  refine kj_iconst (pc := 0) C (v := 0) dX10_notesOn_0 ci_0 ?_
  refine kj_ist2 (pc := 1) C dX10_notesOn_1 (Nat.le_of_ble_eq_true rfl) rfl ?_
  refine kj_iconst (pc := 2) C (v := 0) dX10_notesOn_2 ci_0 ?_
  refine kj_ist3 (pc := 3) C dX10_notesOn_3 (Nat.le_of_ble_eq_true rfl) rfl ?_
  exact k_X10_notesOn_4 C hr hR 100 _ _ _ h
def f_X10_pitchOn_2 (n : Nat) (v1 : Int32) (v2 : Int32) (M : Mem) : Option (Mem) := match n with
  | 0 => none
  | n + 1 => if (M.1 27 0 0) ≤ v2 then some M else if ¬ (v2 < 0 ∨ 6 ≤ v2.toNatClampNeg) then lt_ ((((20 : Int32) * v1) + (12 : Int32)) + v2) (fun x4 => if ¬ (x4 < 0 ∨ 40 ≤ x4.toNatClampNeg) then lt_ (sw M 27 4 x4.toNatClampNeg (M.1 27 1 v2.toNatClampNeg)) (fun M5 => lt_ (v2 + 1) (fun x6 => f_X10_pitchOn_2 n v1 x6 M5)) else none) else none
set_option maxHeartbeats 4000000 in
set_option maxRecDepth 100000 in
theorem k_X10_pitchOn_2 {g : GT} {X : XT} {t : Mem} (C : Cx g X cX10_pitchOn RX10 3 0) (hr : (xt X).sig.returnType = none) (hR : Rt g X none t) (n : Nat) : ∀ (v1 : Int32) (v2 : Int32) (M : Mem), f_X10_pitchOn_2 n v1 v2 M = some t → Kj g X 3 2 [some (.ref (ga g 27 0)), some (.int v1), some (.int v2)] [] M := by
  induction n with
  | zero => intro v1 v2 M h; rw [f_X10_pitchOn_2] at h; cases h
  | succ n ih =>
    intro v1 v2 M h
    rw [f_X10_pitchOn_2] at h
    refine kj_ild2 (pc := 2) C dX10_pitchOn_2 ?_
    refine kj_ald0 (pc := 3) C dX10_pitchOn_3 ?_
    refine gf_X10_96 (pc := 4) C dX10_pitchOn_4 ?_
    refine kj_icmp_ge (pc := 7) C dX10_pitchOn_7 (tgt := 36) (by decide) (fun c1 => ?_) (fun c1 => ?_)
    · have h := of_pos c1 h
      cases h
      exact kj_vret (pc := 36) C hr hR dX10_pitchOn_36
    · have h := of_neg c1 h
      refine kj_ald0 (pc := 10) C dX10_pitchOn_10 ?_
      refine gf_X10_19 (pc := 11) C dX10_pitchOn_11 ?_
      refine kj_bipush (pc := 14) C (v := 20) dX10_pitchOn_14 cb_20 ?_
      refine kj_ild1 (pc := 16) C dX10_pitchOn_16 ?_
      refine kj_imul (pc := 17) C dX10_pitchOn_17 ?_
      refine kj_bipush (pc := 18) C (v := 12) dX10_pitchOn_18 cb_12 ?_
      refine kj_iadd (pc := 20) C dX10_pitchOn_20 ?_
      refine kj_ild2 (pc := 21) C dX10_pitchOn_21 ?_
      refine kj_iadd (pc := 22) C dX10_pitchOn_22 ?_
      refine kj_ald0 (pc := 23) C dX10_pitchOn_23 ?_
      refine gf_X10_7 (pc := 24) C dX10_pitchOn_24 ?_
      refine kj_ild2 (pc := 27) C dX10_pitchOn_27 ?_
      obtain ⟨c2, h⟩ := of_gd h
      refine kj_iald2 (pc := 28) C ia_27_1 c2 dX10_pitchOn_28 ?_
      obtain ⟨x4, ex4, h⟩ := of_lt h
      refine kj_ni2 ex4 ?_
      obtain ⟨c3, h⟩ := of_gd h
      obtain ⟨M5, eM5, h⟩ := of_lt h
      refine kj_iast2 (pc := 29) C ia_27_4 c3 dX10_pitchOn_29 ?_
      refine kj_nM eM5 ?_
      obtain ⟨x6, ex6, h⟩ := of_lt h
      refine kj_iinc2 (pc := 30) C (v := x6) dX10_pitchOn_30 (Nat.le_of_ble_eq_true rfl) rfl (by rw [ex6, ci_1]) ?_
      refine kj_goto (pc := 33) C dX10_pitchOn_33 (tgt := 2) (by decide) ?_
      exact ih _ _ _ h
def f_X10_pitchOn (v1 : Int32) (M : Mem) : Option (Mem) := f_X10_pitchOn_2 100 v1 0 M
set_option maxHeartbeats 4000000 in
set_option maxRecDepth 100000 in
theorem ct_X10_pitchOn {g : GT} {l : Launch} {v1 : Int32} {M : Mem} {t : Mem} (h : f_X10_pitchOn v1 M = some t) : Ct g l 0 yX10_pitchOn cX10_pitchOn 3 (none) [.ref (ga g 27 0), .int v1] M (none) t := by
  refine ct_of (k := 1) (by decide) (Nat.le_of_ble_eq_true rfl) rfl (fun X C hl hr hR => ?_)
  subst hl
  have C : Cx g X cX10_pitchOn RX10 3 0 := C
  unfold f_X10_pitchOn at h
  refine kj_iconst (pc := 0) C (v := 0) dX10_pitchOn_0 ci_0 ?_
  refine kj_ist2 (pc := 1) C dX10_pitchOn_1 (Nat.le_of_ble_eq_true rfl) rfl ?_
  exact k_X10_pitchOn_2 C hr hR 100 _ _ _ h
def f_X10_singer (v1 : Int32) (v2 : Int32) (M : Mem) : Option (Int32) := (f_X10_isSinger v1 M).bind (fun q1 => if q1 = 0 then some ((-1) : Int32) else if v2 = 0 then if ¬ (v1 < 0 ∨ 40 ≤ v1.toNatClampNeg) then some (M.1 27 4 v1.toNatClampNeg) else none else if v2 = 1 then if ¬ (v1 < 0 ∨ 6 ≤ v1.toNatClampNeg) then some (M.1 27 1 v1.toNatClampNeg) else none else if v2 = 2 then if ¬ (v1 < 0 ∨ 6 ≤ v1.toNatClampNeg) then some (M.1 27 2 v1.toNatClampNeg) else none else if v2 = 3 then lt_ ((6 : Int32) + v1) (fun x10 => if ¬ (x10 < 0 ∨ 40 ≤ x10.toNatClampNeg) then some (M.1 27 4 x10.toNatClampNeg) else none) else if v2 = 4 then if ¬ (v1 < 0 ∨ 6 ≤ v1.toNatClampNeg) then some (M.1 27 3 v1.toNatClampNeg) else none else if v2 = 5 then lt_ ((12 : Int32) + v1) (fun x15 => if ¬ (x15 < 0 ∨ 40 ≤ x15.toNatClampNeg) then some (M.1 27 4 x15.toNatClampNeg) else none) else if v2 = 6 then (f_X10_seesOf 0 v1 M).bind (fun q17 => some q17) else if v2 = 7 then (f_X10_enviesOf 0 v1 M).bind (fun q19 => some q19) else if v2 = 8 then if ¬ ((18 : Int32) < 0 ∨ 40 ≤ (18 : Int32).toNatClampNeg) then some (((M.1 27 4 (18 : Int32).toNatClampNeg) >>> (v1 &&& 31)) &&& (1 : Int32)) else none else some ((-2) : Int32))
set_option maxHeartbeats 4000000 in
set_option maxRecDepth 100000 in
theorem ct_X10_singer {g : GT} {l : Launch} {v1 : Int32} {v2 : Int32} {M : Mem} {t : Int32} (h : f_X10_singer v1 v2 M = some t) : Ct g l 3 yX10_singer cX10_singer 3 (some .int) [.ref (ga g 27 0), .int v1, .int v2] M (some (.int t)) M := by
  refine ct_of (k := 0) (by decide) (Nat.le_of_ble_eq_true rfl) rfl (fun X C hl hr hR => ?_)
  subst hl
  have C : Cx g X cX10_singer RX10 3 3 := C
  unfold f_X10_singer at h
  refine kj_ald0 (pc := 0) C dX10_singer_0 ?_
  refine kj_ild1 (pc := 1) C dX10_singer_1 ?_
  obtain ⟨q1, eq1, h⟩ := of_bind h
  refine kj_callV1 (pc := 2) C (ct_X10_isSinger eq1) (Nat.le_of_ble_eq_true rfl) mi_X10_isSinger ml_X10_119 rc_27 rfl rfl ar1 (Nat.le_of_ble_eq_true rfl) dX10_singer_2 ?_
  refine kj_if_ne (pc := 5) C dX10_singer_5 (tgt := 10) (by decide) (fun c2 => ?_) (fun c2 => ?_)
  · have h := of_neg c2 h
    refine kj_ild2 (pc := 10) C dX10_singer_10 ?_
    rcases Classical.em (v2 = 0) with c4 | c4
    · have h := of_pos c4 h
      refine kj_tsIn (pc := 11) C (off := 49) (tgt := 60) dX10_singer_11 (by rw [c4]; decide) (by rw [c4]; decide) (by rw [c4]; decide) (by decide) ?_
      refine kj_ald0 (pc := 60) C dX10_singer_60 ?_
      refine gf_X10_19 (pc := 61) C dX10_singer_61 ?_
      refine kj_ild1 (pc := 64) C dX10_singer_64 ?_
      obtain ⟨c3, h⟩ := of_gd h
      refine kj_iald2 (pc := 65) C ia_27_4 c3 dX10_singer_65 ?_
      cases h
      exact kj_iret (pc := 66) C hr hR dX10_singer_66
    · have h := of_neg c4 h
      rcases Classical.em (v2 = 1) with c6 | c6
      · have h := of_pos c6 h
        refine kj_tsIn (pc := 11) C (off := 56) (tgt := 67) dX10_singer_11 (by rw [c6]; decide) (by rw [c6]; decide) (by rw [c6]; decide) (by decide) ?_
        refine kj_ald0 (pc := 67) C dX10_singer_67 ?_
        refine gf_X10_7 (pc := 68) C dX10_singer_68 ?_
        refine kj_ild1 (pc := 71) C dX10_singer_71 ?_
        obtain ⟨c5, h⟩ := of_gd h
        refine kj_iald2 (pc := 72) C ia_27_1 c5 dX10_singer_72 ?_
        cases h
        exact kj_iret (pc := 73) C hr hR dX10_singer_73
      · have h := of_neg c6 h
        rcases Classical.em (v2 = 2) with c8 | c8
        · have h := of_pos c8 h
          refine kj_tsIn (pc := 11) C (off := 63) (tgt := 74) dX10_singer_11 (by rw [c8]; decide) (by rw [c8]; decide) (by rw [c8]; decide) (by decide) ?_
          refine kj_ald0 (pc := 74) C dX10_singer_74 ?_
          refine gf_X10_13 (pc := 75) C dX10_singer_75 ?_
          refine kj_ild1 (pc := 78) C dX10_singer_78 ?_
          obtain ⟨c7, h⟩ := of_gd h
          refine kj_iald2 (pc := 79) C ia_27_2 c7 dX10_singer_79 ?_
          cases h
          exact kj_iret (pc := 80) C hr hR dX10_singer_80
        · have h := of_neg c8 h
          rcases Classical.em (v2 = 3) with c11 | c11
          · have h := of_pos c11 h
            refine kj_tsIn (pc := 11) C (off := 70) (tgt := 81) dX10_singer_11 (by rw [c11]; decide) (by rw [c11]; decide) (by rw [c11]; decide) (by decide) ?_
            refine kj_ald0 (pc := 81) C dX10_singer_81 ?_
            refine gf_X10_19 (pc := 82) C dX10_singer_82 ?_
            refine kj_bipush (pc := 85) C (v := 6) dX10_singer_85 cb_6 ?_
            refine kj_ild1 (pc := 87) C dX10_singer_87 ?_
            refine kj_iadd (pc := 88) C dX10_singer_88 ?_
            obtain ⟨x10, ex10, h⟩ := of_lt h
            refine kj_ni ex10 ?_
            obtain ⟨c9, h⟩ := of_gd h
            refine kj_iald2 (pc := 89) C ia_27_4 c9 dX10_singer_89 ?_
            cases h
            exact kj_iret (pc := 90) C hr hR dX10_singer_90
          · have h := of_neg c11 h
            rcases Classical.em (v2 = 4) with c13 | c13
            · have h := of_pos c13 h
              refine kj_tsIn (pc := 11) C (off := 80) (tgt := 91) dX10_singer_11 (by rw [c13]; decide) (by rw [c13]; decide) (by rw [c13]; decide) (by decide) ?_
              refine kj_ald0 (pc := 91) C dX10_singer_91 ?_
              refine gf_X10_16 (pc := 92) C dX10_singer_92 ?_
              refine kj_ild1 (pc := 95) C dX10_singer_95 ?_
              obtain ⟨c12, h⟩ := of_gd h
              refine kj_iald2 (pc := 96) C ia_27_3 c12 dX10_singer_96 ?_
              cases h
              exact kj_iret (pc := 97) C hr hR dX10_singer_97
            · have h := of_neg c13 h
              rcases Classical.em (v2 = 5) with c16 | c16
              · have h := of_pos c16 h
                refine kj_tsIn (pc := 11) C (off := 87) (tgt := 98) dX10_singer_11 (by rw [c16]; decide) (by rw [c16]; decide) (by rw [c16]; decide) (by decide) ?_
                refine kj_ald0 (pc := 98) C dX10_singer_98 ?_
                refine gf_X10_19 (pc := 99) C dX10_singer_99 ?_
                refine kj_bipush (pc := 102) C (v := 12) dX10_singer_102 cb_12 ?_
                refine kj_ild1 (pc := 104) C dX10_singer_104 ?_
                refine kj_iadd (pc := 105) C dX10_singer_105 ?_
                obtain ⟨x15, ex15, h⟩ := of_lt h
                refine kj_ni ex15 ?_
                obtain ⟨c14, h⟩ := of_gd h
                refine kj_iald2 (pc := 106) C ia_27_4 c14 dX10_singer_106 ?_
                cases h
                exact kj_iret (pc := 107) C hr hR dX10_singer_107
              · have h := of_neg c16 h
                rcases Classical.em (v2 = 6) with c18 | c18
                · have h := of_pos c18 h
                  refine kj_tsIn (pc := 11) C (off := 97) (tgt := 108) dX10_singer_11 (by rw [c18]; decide) (by rw [c18]; decide) (by rw [c18]; decide) (by decide) ?_
                  refine kj_ald0 (pc := 108) C dX10_singer_108 ?_
                  refine kj_iconst (pc := 109) C (v := 0) dX10_singer_109 ci_0 ?_
                  refine kj_ild1 (pc := 110) C dX10_singer_110 ?_
                  obtain ⟨q17, eq17, h⟩ := of_bind h
                  refine kj_callV1 (pc := 111) C (ct_X10_seesOf eq17) (Nat.le_of_ble_eq_true rfl) mi_X10_seesOf ml_X10_110 rc_27 rfl rfl ar2 (Nat.le_of_ble_eq_true rfl) dX10_singer_111 ?_
                  cases h
                  exact kj_iret (pc := 114) C hr hR dX10_singer_114
                · have h := of_neg c18 h
                  rcases Classical.em (v2 = 7) with c20 | c20
                  · have h := of_pos c20 h
                    refine kj_tsIn (pc := 11) C (off := 104) (tgt := 115) dX10_singer_11 (by rw [c20]; decide) (by rw [c20]; decide) (by rw [c20]; decide) (by decide) ?_
                    refine kj_ald0 (pc := 115) C dX10_singer_115 ?_
                    refine kj_iconst (pc := 116) C (v := 0) dX10_singer_116 ci_0 ?_
                    refine kj_ild1 (pc := 117) C dX10_singer_117 ?_
                    obtain ⟨q19, eq19, h⟩ := of_bind h
                    refine kj_callV1 (pc := 118) C (ct_X10_enviesOf eq19) (Nat.le_of_ble_eq_true rfl) mi_X10_enviesOf ml_X10_113 rc_27 rfl rfl ar2 (Nat.le_of_ble_eq_true rfl) dX10_singer_118 ?_
                    cases h
                    exact kj_iret (pc := 121) C hr hR dX10_singer_121
                  · have h := of_neg c20 h
                    rcases Classical.em (v2 = 8) with c22 | c22
                    · have h := of_pos c22 h
                      refine kj_tsIn (pc := 11) C (off := 111) (tgt := 122) dX10_singer_11 (by rw [c22]; decide) (by rw [c22]; decide) (by rw [c22]; decide) (by decide) ?_
                      refine kj_ald0 (pc := 122) C dX10_singer_122 ?_
                      refine gf_X10_19 (pc := 123) C dX10_singer_123 ?_
                      refine kj_bipush (pc := 126) C (v := 18) dX10_singer_126 cb_18 ?_
                      obtain ⟨c21, h⟩ := of_gd h
                      refine kj_iald2 (pc := 128) C ia_27_4 c21 dX10_singer_128 ?_
                      refine kj_ild1 (pc := 129) C dX10_singer_129 ?_
                      refine kj_ishr (pc := 130) C dX10_singer_130 ?_
                      refine kj_iconst (pc := 131) C (v := 1) dX10_singer_131 ci_1 ?_
                      refine kj_iand (pc := 132) C dX10_singer_132 ?_
                      cases h
                      exact kj_iret (pc := 133) C hr hR dX10_singer_133
                    · have h := of_neg c22 h
                      refine kj_tsOut (pc := 11) C (tgt := 134) dX10_singer_11 (ts_out8 c4 c6 c8 c11 c13 c16 c18 c20 c22) (by decide) ?_
                      refine kj_bipush (pc := 134) C (v := (-2)) dX10_singer_134 cb_m2 ?_
                      cases h
                      exact kj_iret (pc := 136) C hr hR dX10_singer_136
  · have h := of_pos c2 h
    refine kj_iconst (pc := 8) C (v := (-1)) dX10_singer_8 ci_m1 ?_
    cases h
    exact kj_iret (pc := 9) C hr hR dX10_singer_9
def f_X10_whoAt_2 (M : Mem) (n : Nat) (v1 : Int32) (v2 : Int32) : Option (Int32) := match n with
  | 0 => none
  | n + 1 => if (M.1 27 0 0) ≤ v2 then some ((-9) : Int32) else if ¬ (v2 < 0 ∨ 40 ≤ v2.toNatClampNeg) then if (M.1 27 4 v2.toNatClampNeg) = v1 then some v2 else lt_ (v2 + 1) (fun x4 => f_X10_whoAt_2 M n v1 x4) else none
set_option maxHeartbeats 4000000 in
set_option maxRecDepth 100000 in
theorem k_X10_whoAt_2 {g : GT} {X : XT} {M : Mem} {t : Int32} (C : Cx g X cX10_whoAt RX10 3 0) (hr : (xt X).sig.returnType = some .int) (hR : Rt g X (some (.int t)) M) (n : Nat) : ∀ (v1 : Int32) (v2 : Int32), f_X10_whoAt_2 M n v1 v2 = some t → Kj g X 3 2 [some (.ref (ga g 27 0)), some (.int v1), some (.int v2)] [] M := by
  induction n with
  | zero => intro v1 v2 h; rw [f_X10_whoAt_2] at h; cases h
  | succ n ih =>
    intro v1 v2 h
    rw [f_X10_whoAt_2] at h
    refine kj_ild2 (pc := 2) C dX10_whoAt_2 ?_
    refine kj_ald0 (pc := 3) C dX10_whoAt_3 ?_
    refine gf_X10_96 (pc := 4) C dX10_whoAt_4 ?_
    refine kj_icmp_ge (pc := 7) C dX10_whoAt_7 (tgt := 28) (by decide) (fun c1 => ?_) (fun c1 => ?_)
    · have h := of_pos c1 h
      refine kj_bipush (pc := 28) C (v := (-9)) dX10_whoAt_28 cb_m9 ?_
      cases h
      exact kj_iret (pc := 30) C hr hR dX10_whoAt_30
    · have h := of_neg c1 h
      refine kj_ald0 (pc := 10) C dX10_whoAt_10 ?_
      refine gf_X10_19 (pc := 11) C dX10_whoAt_11 ?_
      refine kj_ild2 (pc := 14) C dX10_whoAt_14 ?_
      obtain ⟨c2, h⟩ := of_gd h
      refine kj_iald2 (pc := 15) C ia_27_4 c2 dX10_whoAt_15 ?_
      refine kj_ild1 (pc := 16) C dX10_whoAt_16 ?_
      refine kj_icmp_ne (pc := 17) C dX10_whoAt_17 (tgt := 22) (by decide) (fun c3 => ?_) (fun c3 => ?_)
      · have h := of_neg c3 h
        obtain ⟨x4, ex4, h⟩ := of_lt h
        refine kj_iinc2 (pc := 22) C (v := x4) dX10_whoAt_22 (Nat.le_of_ble_eq_true rfl) rfl (by rw [ex4, ci_1]) ?_
        refine kj_goto (pc := 25) C dX10_whoAt_25 (tgt := 2) (by decide) ?_
        exact ih _ _ h
      · have h := of_pos c3 h
        refine kj_ild2 (pc := 20) C dX10_whoAt_20 ?_
        cases h
        exact kj_iret (pc := 21) C hr hR dX10_whoAt_21
def f_X10_whoAt (v1 : Int32) (M : Mem) : Option (Int32) := f_X10_whoAt_2 M 100 v1 0
set_option maxHeartbeats 4000000 in
set_option maxRecDepth 100000 in
theorem ct_X10_whoAt {g : GT} {l : Launch} {v1 : Int32} {M : Mem} {t : Int32} (h : f_X10_whoAt v1 M = some t) : Ct g l 0 yX10_whoAt cX10_whoAt 3 (some .int) [.ref (ga g 27 0), .int v1] M (some (.int t)) M := by
  refine ct_of (k := 1) (by decide) (Nat.le_of_ble_eq_true rfl) rfl (fun X C hl hr hR => ?_)
  subst hl
  have C : Cx g X cX10_whoAt RX10 3 0 := C
  unfold f_X10_whoAt at h
  refine kj_iconst (pc := 0) C (v := 0) dX10_whoAt_0 ci_0 ?_
  refine kj_ist2 (pc := 1) C dX10_whoAt_1 (Nat.le_of_ble_eq_true rfl) rfl ?_
  exact k_X10_whoAt_2 C hr hR 100 _ _ h
def f_X10_seat_21 (M : Mem) (s0 : Int32) : Option (Int32) := some s0
set_option maxHeartbeats 4000000 in
set_option maxRecDepth 100000 in
theorem k_X10_seat_21 {g : GT} {X : XT} {M : Mem} {t : Int32} (C : Cx g X cX10_seat RX10 2 1) (hr : (xt X).sig.returnType = some .int) (hR : Rt g X (some (.int t)) M) : ∀ (s0 : Int32) (w0 w1 : Option Value), f_X10_seat_21 M s0 = some t → Kj g X 2 21 [w0, w1] [.int s0] M := by
  intro s0 w0 w1 h
  unfold f_X10_seat_21 at h
  cases h
  exact kj_iret (pc := 21) C hr hR dX10_seat_21
def f_X10_seat (v1 : Int32) (M : Mem) : Option (Int32) := (f_X10_in v1.toInt64 0 7 M).bind (fun q1 => if q1 = 0 then f_X10_seat_21 M (-1) else (f_X10_whoAt v1 M).bind (fun q3 => f_X10_seat_21 M q3))
set_option maxHeartbeats 4000000 in
set_option maxRecDepth 100000 in
theorem ct_X10_seat {g : GT} {l : Launch} {v1 : Int32} {M : Mem} {t : Int32} (h : f_X10_seat v1 M = some t) : Ct g l 1 yX10_seat cX10_seat 2 (some .int) [.ref (ga g 27 0), .int v1] M (some (.int t)) M := by
  refine ct_of (k := 0) (by decide) (Nat.le_of_ble_eq_true rfl) rfl (fun X C hl hr hR => ?_)
  subst hl
  have C : Cx g X cX10_seat RX10 2 1 := C
  unfold f_X10_seat at h
  refine kj_ild1 (pc := 0) C dX10_seat_0 ?_
  refine kj_i2l (pc := 1) C dX10_seat_1 ?_
  refine kj_lconst (pc := 2) C (v := 0) dX10_seat_2 cl_0 ?_
  refine kj_ldc2 (pc := 3) C cn_X10_123 dX10_seat_3 ?_
  obtain ⟨q1, eq1, h⟩ := of_bind h
  refine kj_callS1 (pc := 6) C (ct_X10_in eq1) (Nat.le_of_ble_eq_true rfl) mi_X10_in ml_X10_59 rfl as3 (Nat.le_of_ble_eq_true rfl) dX10_seat_6 ?_
  refine kj_if_eq (pc := 9) C dX10_seat_9 (tgt := 20) (by decide) (fun c2 => ?_) (fun c2 => ?_)
  · have h := of_pos c2 h
    refine kj_iconst (pc := 20) C (v := (-1)) dX10_seat_20 ci_m1 ?_
    exact k_X10_seat_21 C hr hR _ _ _ h
  · have h := of_neg c2 h
    refine kj_ald0 (pc := 12) C dX10_seat_12 ?_
    refine kj_ild1 (pc := 13) C dX10_seat_13 ?_
    obtain ⟨q3, eq3, h⟩ := of_bind h
    refine kj_callV1 (pc := 14) C (ct_X10_whoAt eq3) (Nat.le_of_ble_eq_true rfl) mi_X10_whoAt ml_X10_125 rc_27 rfl rfl ar1 (Nat.le_of_ble_eq_true rfl) dX10_seat_14 ?_
    refine kj_goto (pc := 17) C dX10_seat_17 (tgt := 21) (by decide) ?_
    exact k_X10_seat_21 C hr hR _ _ _ h
def f_X10_keepAct_68 (s1 : Int32) (M : Mem) : Option (Mem) := lt_ (sw M 27 0 14 s1) (fun M1 => some M1)
set_option maxHeartbeats 4000000 in
set_option maxRecDepth 100000 in
theorem k_X10_keepAct_68 {g : GT} {X : XT} {t : Mem} (C : Cx g X cX10_keepAct RX10 2 0) (hr : (xt X).sig.returnType = none) (hR : Rt g X none t) : ∀ (s1 : Int32) (M : Mem) (w0 w1 : Option Value), f_X10_keepAct_68 s1 M = some t → Kj g X 2 68 [w0, w1] [.int s1, .ref (ga g 27 0)] M := by
  intro s1 M w0 w1 h
  unfold f_X10_keepAct_68 at h
  obtain ⟨M1, eM1, h⟩ := of_lt h
  refine pf_X10_99 (pc := 68) C dX10_keepAct_68 ?_
  refine kj_nM eM1 ?_
  cases h
  exact kj_vret (pc := 71) C hr hR dX10_keepAct_71
def f_X10_keepAct_2 (n : Nat) (v1 : Int32) (M : Mem) : Option (Mem) := match n with
  | 0 => none
  | n + 1 => if 20 ≤ v1 then lt_ ((M.1 27 0 15) + (1 : Int32)) (fun x2 => lt_ (sw M 27 0 15 (x2 - x2 / 14 * 14)) (fun M3 => if 14 ≤ (M3.1 27 0 14) then f_X10_keepAct_68 14 M3 else f_X10_keepAct_68 ((M3.1 27 0 14) + (1 : Int32)) M3)) else if ¬ (v1 < 0 ∨ 40 ≤ v1.toNatClampNeg) then lt_ (((20 : Int32) * (M.1 27 0 15)) + v1) (fun x7 => if ¬ (x7 < 0 ∨ 280 ≤ x7.toNatClampNeg) then lt_ (sw M 27 8 x7.toNatClampNeg (M.1 27 4 v1.toNatClampNeg)) (fun M8 => lt_ (v1 + 1) (fun x9 => f_X10_keepAct_2 n x9 M8)) else none) else none
set_option maxHeartbeats 4000000 in
set_option maxRecDepth 100000 in
theorem k_X10_keepAct_2 {g : GT} {X : XT} {t : Mem} (C : Cx g X cX10_keepAct RX10 2 0) (hr : (xt X).sig.returnType = none) (hR : Rt g X none t) (n : Nat) : ∀ (v1 : Int32) (M : Mem), f_X10_keepAct_2 n v1 M = some t → Kj g X 2 2 [some (.ref (ga g 27 0)), some (.int v1)] [] M := by
  induction n with
  | zero => intro v1 M h; rw [f_X10_keepAct_2] at h; cases h
  | succ n ih =>
    intro v1 M h
    rw [f_X10_keepAct_2] at h
    refine kj_ild1 (pc := 2) C dX10_keepAct_2 ?_
    refine kj_bipush (pc := 3) C (v := 20) dX10_keepAct_3 cb_20 ?_
    refine kj_icmp_ge (pc := 5) C dX10_keepAct_5 (tgt := 34) (by decide) (fun c1 => ?_) (fun c1 => ?_)
    · have h := of_pos c1 h
      refine kj_ald0 (pc := 34) C dX10_keepAct_34 ?_
      refine kj_ald0 (pc := 35) C dX10_keepAct_35 ?_
      refine gf_X10_128 (pc := 36) C dX10_keepAct_36 ?_
      refine kj_iconst (pc := 39) C (v := 1) dX10_keepAct_39 ci_1 ?_
      refine kj_iadd (pc := 40) C dX10_keepAct_40 ?_
      refine kj_bipush (pc := 41) C (v := 14) dX10_keepAct_41 cb_14 ?_
      obtain ⟨x2, ex2, h⟩ := of_lt h
      rw [← ex2]
      refine kj_irem (pc := 43) C dX10_keepAct_43 (by decide) ?_
      obtain ⟨M3, eM3, h⟩ := of_lt h
      refine pf_X10_128 (pc := 44) C dX10_keepAct_44 ?_
      refine kj_nM eM3 ?_
      refine kj_ald0 (pc := 47) C dX10_keepAct_47 ?_
      refine kj_ald0 (pc := 48) C dX10_keepAct_48 ?_
      refine gf_X10_99 (pc := 49) C dX10_keepAct_49 ?_
      refine kj_bipush (pc := 52) C (v := 14) dX10_keepAct_52 cb_14 ?_
      refine kj_icmp_ge (pc := 54) C dX10_keepAct_54 (tgt := 66) (by decide) (fun c4 => ?_) (fun c4 => ?_)
      · have h := of_pos c4 h
        refine kj_bipush (pc := 66) C (v := 14) dX10_keepAct_66 cb_14 ?_
        exact k_X10_keepAct_68 C hr hR _ _ _ _ h
      · have h := of_neg c4 h
        refine kj_ald0 (pc := 57) C dX10_keepAct_57 ?_
        refine gf_X10_99 (pc := 58) C dX10_keepAct_58 ?_
        refine kj_iconst (pc := 61) C (v := 1) dX10_keepAct_61 ci_1 ?_
        refine kj_iadd (pc := 62) C dX10_keepAct_62 ?_
        refine kj_goto (pc := 63) C dX10_keepAct_63 (tgt := 68) (by decide) ?_
        exact k_X10_keepAct_68 C hr hR _ _ _ _ h
    · have h := of_neg c1 h
      refine kj_ald0 (pc := 8) C dX10_keepAct_8 ?_
      refine gf_X10_35 (pc := 9) C dX10_keepAct_9 ?_
      refine kj_bipush (pc := 12) C (v := 20) dX10_keepAct_12 cb_20 ?_
      refine kj_ald0 (pc := 14) C dX10_keepAct_14 ?_
      refine gf_X10_128 (pc := 15) C dX10_keepAct_15 ?_
      refine kj_imul (pc := 18) C dX10_keepAct_18 ?_
      refine kj_ild1 (pc := 19) C dX10_keepAct_19 ?_
      refine kj_iadd (pc := 20) C dX10_keepAct_20 ?_
      refine kj_ald0 (pc := 21) C dX10_keepAct_21 ?_
      refine gf_X10_19 (pc := 22) C dX10_keepAct_22 ?_
      refine kj_ild1 (pc := 25) C dX10_keepAct_25 ?_
      obtain ⟨c5, h⟩ := of_gd h
      refine kj_iald2 (pc := 26) C ia_27_4 c5 dX10_keepAct_26 ?_
      obtain ⟨x7, ex7, h⟩ := of_lt h
      refine kj_ni2 ex7 ?_
      obtain ⟨c6, h⟩ := of_gd h
      obtain ⟨M8, eM8, h⟩ := of_lt h
      refine kj_iast2 (pc := 27) C ia_27_8 c6 dX10_keepAct_27 ?_
      refine kj_nM eM8 ?_
      obtain ⟨x9, ex9, h⟩ := of_lt h
      refine kj_iinc1 (pc := 28) C (v := x9) dX10_keepAct_28 (Nat.le_of_ble_eq_true rfl) rfl (by rw [ex9, ci_1]) ?_
      refine kj_goto (pc := 31) C dX10_keepAct_31 (tgt := 2) (by decide) ?_
      exact ih _ _ h
def f_X10_keepAct (M : Mem) : Option (Mem) := f_X10_keepAct_2 100 0 M
set_option maxHeartbeats 4000000 in
set_option maxRecDepth 100000 in
theorem ct_X10_keepAct {g : GT} {l : Launch} {M : Mem} {t : Mem} (h : f_X10_keepAct M = some t) : Ct g l 0 yX10_keepAct cX10_keepAct 2 (none) [.ref (ga g 27 0)] M (none) t := by
  refine ct_of (k := 1) (by decide) (Nat.le_of_ble_eq_true rfl) rfl (fun X C hl hr hR => ?_)
  subst hl
  have C : Cx g X cX10_keepAct RX10 2 0 := C
  unfold f_X10_keepAct at h
  refine kj_iconst (pc := 0) C (v := 0) dX10_keepAct_0 ci_0 ?_
  refine kj_ist1 (pc := 1) C dX10_keepAct_1 (Nat.le_of_ble_eq_true rfl) rfl ?_
  exact k_X10_keepAct_2 C hr hR 100 _ _ h
def f_X10_bar (M : Mem) : Option (Int32 × Mem) := (f_X10_keepAct M).bind (fun q1 => (f_X10_passOn 0 q1).bind (fun q2 => (f_X10_notesOn 0 q2).bind (fun q3 => (f_X10_ones q3 q2).bind (fun q4 => some (q4, q2)))))
set_option maxHeartbeats 4000000 in
set_option maxRecDepth 100000 in
theorem ct_X10_bar {g : GT} {l : Launch} {M : Mem} {t : Int32 × Mem} (h : f_X10_bar M = some t) : Ct g l 5 yX10_bar cX10_bar 1 (some .int) [.ref (ga g 27 0)] M (some (.int t.1)) t.2 := by
  refine ct_of (k := 0) (by decide) (Nat.le_of_ble_eq_true rfl) rfl (fun X C hl hr hR => ?_)
  subst hl
  have C : Cx g X cX10_bar RX10 1 5 := C
  unfold f_X10_bar at h
  refine kj_ald0 (pc := 0) C dX10_bar_0 ?_
  obtain ⟨q1, eq1, h⟩ := of_bind h
  refine kj_callV0 (pc := 1) C (ct_X10_keepAct eq1) (Nat.le_of_ble_eq_true rfl) mi_X10_keepAct ml_X10_131 rc_27 rfl rfl ar0 (Nat.le_of_ble_eq_true rfl) dX10_bar_1 ?_
  refine kj_ald0 (pc := 4) C dX10_bar_4 ?_
  refine kj_iconst (pc := 5) C (v := 0) dX10_bar_5 ci_0 ?_
  obtain ⟨q2, eq2, h⟩ := of_bind h
  refine kj_callV0 (pc := 6) C (ct_X10_passOn eq2) (Nat.le_of_ble_eq_true rfl) mi_X10_passOn ml_X10_134 rc_27 rfl rfl ar1 (Nat.le_of_ble_eq_true rfl) dX10_bar_6 ?_
  refine kj_ald0 (pc := 9) C dX10_bar_9 ?_
  refine kj_iconst (pc := 10) C (v := 0) dX10_bar_10 ci_0 ?_
  obtain ⟨q3, eq3, h⟩ := of_bind h
  refine kj_callV1 (pc := 11) C (ct_X10_notesOn eq3) (Nat.le_of_ble_eq_true rfl) mi_X10_notesOn ml_X10_137 rc_27 rfl rfl ar1 (Nat.le_of_ble_eq_true rfl) dX10_bar_11 ?_
  obtain ⟨q4, eq4, h⟩ := of_bind h
  refine kj_callS1 (pc := 14) C (ct_X10_ones eq4) (Nat.le_of_ble_eq_true rfl) mi_X10_ones ml_X10_140 rfl as1 (Nat.le_of_ble_eq_true rfl) dX10_bar_14 ?_
  cases h
  exact kj_iret (pc := 17) C hr hR dX10_bar_17
def f_X10_giveOn_45 (s1 : Int32) (s2 : Int32) (M : Mem) : Option (Mem) := if ¬ (s1 < 0 ∨ 40 ≤ s1.toNatClampNeg) then lt_ (sw M 27 4 s1.toNatClampNeg s2) (fun M2 => some M2) else none
set_option maxHeartbeats 4000000 in
set_option maxRecDepth 100000 in
theorem k_X10_giveOn_45 {g : GT} {X : XT} {t : Mem} (C : Cx g X cX10_giveOn RX10 5 0) (hr : (xt X).sig.returnType = none) (hR : Rt g X none t) : ∀ (s1 : Int32) (s2 : Int32) (M : Mem) (w0 w1 w2 w3 w4 : Option Value), f_X10_giveOn_45 s1 s2 M = some t → Kj g X 5 45 [w0, w1, w2, w3, w4] [.int s2, .int s1, .ref (ga g 27 4)] M := by
  intro s1 s2 M w0 w1 w2 w3 w4 h
  unfold f_X10_giveOn_45 at h
  obtain ⟨c1, h⟩ := of_gd h
  obtain ⟨M2, eM2, h⟩ := of_lt h
  refine kj_iast2 (pc := 45) C ia_27_4 c1 dX10_giveOn_45 ?_
  refine kj_nM eM2 ?_
  cases h
  exact kj_vret (pc := 46) C hr hR dX10_giveOn_46
def f_X10_giveOn (v1 : Int32) (v2 : Int32) (v3 : Int32) (M : Mem) : Option (Mem) := lt_ ((((20 : Int32) * v1) + (6 : Int32)) + v2) (fun x1 => if ¬ (x1 < 0 ∨ 40 ≤ x1.toNatClampNeg) then if ((M.1 27 4 x1.toNatClampNeg) + v3) ≤ 99 then if ¬ (x1 < 0 ∨ 40 ≤ x1.toNatClampNeg) then f_X10_giveOn_45 x1 ((M.1 27 4 x1.toNatClampNeg) + v3) M else none else f_X10_giveOn_45 x1 99 M else none)
set_option maxHeartbeats 4000000 in
set_option maxRecDepth 100000 in
theorem ct_X10_giveOn {g : GT} {l : Launch} {v1 : Int32} {v2 : Int32} {v3 : Int32} {M : Mem} {t : Mem} (h : f_X10_giveOn v1 v2 v3 M = some t) : Ct g l 0 yX10_giveOn cX10_giveOn 5 (none) [.ref (ga g 27 0), .int v1, .int v2, .int v3] M (none) t := by
  refine ct_of (k := 1) (by decide) (Nat.le_of_ble_eq_true rfl) rfl (fun X C hl hr hR => ?_)
  subst hl
  have C : Cx g X cX10_giveOn RX10 5 0 := C
  unfold f_X10_giveOn at h
  refine kj_bipush (pc := 0) C (v := 20) dX10_giveOn_0 cb_20 ?_
  refine kj_ild1 (pc := 2) C dX10_giveOn_2 ?_
  refine kj_imul (pc := 3) C dX10_giveOn_3 ?_
  refine kj_bipush (pc := 4) C (v := 6) dX10_giveOn_4 cb_6 ?_
  refine kj_iadd (pc := 6) C dX10_giveOn_6 ?_
  refine kj_ild2 (pc := 7) C dX10_giveOn_7 ?_
  refine kj_iadd (pc := 8) C dX10_giveOn_8 ?_
  obtain ⟨x1, ex1, h⟩ := of_lt h
  refine kj_ni ex1 ?_
  refine kj_ist4 (pc := 9) C dX10_giveOn_9 (Nat.le_of_ble_eq_true rfl) rfl ?_
  refine kj_ald0 (pc := 11) C dX10_giveOn_11 ?_
  refine gf_X10_19 (pc := 12) C dX10_giveOn_12 ?_
  refine kj_ild4 (pc := 15) C dX10_giveOn_15 ?_
  refine kj_ald0 (pc := 17) C dX10_giveOn_17 ?_
  refine gf_X10_19 (pc := 18) C dX10_giveOn_18 ?_
  refine kj_ild4 (pc := 21) C dX10_giveOn_21 ?_
  obtain ⟨c2, h⟩ := of_gd h
  refine kj_iald2 (pc := 23) C ia_27_4 c2 dX10_giveOn_23 ?_
  refine kj_ild3 (pc := 24) C dX10_giveOn_24 ?_
  refine kj_iadd (pc := 25) C dX10_giveOn_25 ?_
  refine kj_bipush (pc := 26) C (v := 99) dX10_giveOn_26 cb_99 ?_
  refine kj_icmp_le (pc := 28) C dX10_giveOn_28 (tgt := 36) (by decide) (fun c3 => ?_) (fun c3 => ?_)
  · have h := of_pos c3 h
    refine kj_ald0 (pc := 36) C dX10_giveOn_36 ?_
    refine gf_X10_19 (pc := 37) C dX10_giveOn_37 ?_
    refine kj_ild4 (pc := 40) C dX10_giveOn_40 ?_
    obtain ⟨c4, h⟩ := of_gd h
    refine kj_iald2 (pc := 42) C ia_27_4 c4 dX10_giveOn_42 ?_
    refine kj_ild3 (pc := 43) C dX10_giveOn_43 ?_
    refine kj_iadd (pc := 44) C dX10_giveOn_44 ?_
    exact k_X10_giveOn_45 C hr hR _ _ _ _ _ _ _ _ h
  · have h := of_neg c3 h
    refine kj_bipush (pc := 31) C (v := 99) dX10_giveOn_31 cb_99 ?_
    refine kj_goto (pc := 33) C dX10_giveOn_33 (tgt := 45) (by decide) ?_
    exact k_X10_giveOn_45 C hr hR _ _ _ _ _ _ _ _ h
def f_X10_gift (v1 : Int32) (v2 : Int32) (M : Mem) : Option (Int32 × Mem) := (f_X10_isSinger v1 M).bind (fun q1 => if q1 = 0 then some (((-1) : Int32), M) else (f_X10_in v2.toInt64 1 9 M).bind (fun q3 => if q3 = 0 then some (((-2) : Int32), M) else (f_X10_keepAct M).bind (fun q5 => (f_X10_giveOn 0 v1 v2 q5).bind (fun q6 => lt_ ((6 : Int32) + v1) (fun x8 => if ¬ (x8 < 0 ∨ 40 ≤ x8.toNatClampNeg) then some (q6.1 27 4 x8.toNatClampNeg, q6) else none)))))
set_option maxHeartbeats 4000000 in
set_option maxRecDepth 100000 in
theorem ct_X10_gift {g : GT} {l : Launch} {v1 : Int32} {v2 : Int32} {M : Mem} {t : Int32 × Mem} (h : f_X10_gift v1 v2 M = some t) : Ct g l 2 yX10_gift cX10_gift 3 (some .int) [.ref (ga g 27 0), .int v1, .int v2] M (some (.int t.1)) t.2 := by
  refine ct_of (k := 0) (by decide) (Nat.le_of_ble_eq_true rfl) rfl (fun X C hl hr hR => ?_)
  subst hl
  have C : Cx g X cX10_gift RX10 3 2 := C
  unfold f_X10_gift at h
  refine kj_ald0 (pc := 0) C dX10_gift_0 ?_
  refine kj_ild1 (pc := 1) C dX10_gift_1 ?_
  obtain ⟨q1, eq1, h⟩ := of_bind h
  refine kj_callV1 (pc := 2) C (ct_X10_isSinger eq1) (Nat.le_of_ble_eq_true rfl) mi_X10_isSinger ml_X10_119 rc_27 rfl rfl ar1 (Nat.le_of_ble_eq_true rfl) dX10_gift_2 ?_
  refine kj_if_ne (pc := 5) C dX10_gift_5 (tgt := 10) (by decide) (fun c2 => ?_) (fun c2 => ?_)
  · have h := of_neg c2 h
    refine kj_ild2 (pc := 10) C dX10_gift_10 ?_
    refine kj_i2l (pc := 11) C dX10_gift_11 ?_
    refine kj_lconst (pc := 12) C (v := 1) dX10_gift_12 cl_1 ?_
    refine kj_ldc2 (pc := 13) C cn_X10_72 dX10_gift_13 ?_
    obtain ⟨q3, eq3, h⟩ := of_bind h
    refine kj_callS1 (pc := 16) C (ct_X10_in eq3) (Nat.le_of_ble_eq_true rfl) mi_X10_in ml_X10_59 rfl as3 (Nat.le_of_ble_eq_true rfl) dX10_gift_16 ?_
    refine kj_if_ne (pc := 19) C dX10_gift_19 (tgt := 25) (by decide) (fun c4 => ?_) (fun c4 => ?_)
    · have h := of_neg c4 h
      refine kj_ald0 (pc := 25) C dX10_gift_25 ?_
      obtain ⟨q5, eq5, h⟩ := of_bind h
      refine kj_callV0 (pc := 26) C (ct_X10_keepAct eq5) (Nat.le_of_ble_eq_true rfl) mi_X10_keepAct ml_X10_131 rc_27 rfl rfl ar0 (Nat.le_of_ble_eq_true rfl) dX10_gift_26 ?_
      refine kj_ald0 (pc := 29) C dX10_gift_29 ?_
      refine kj_iconst (pc := 30) C (v := 0) dX10_gift_30 ci_0 ?_
      refine kj_ild1 (pc := 31) C dX10_gift_31 ?_
      refine kj_ild2 (pc := 32) C dX10_gift_32 ?_
      obtain ⟨q6, eq6, h⟩ := of_bind h
      refine kj_callV0 (pc := 33) C (ct_X10_giveOn eq6) (Nat.le_of_ble_eq_true rfl) mi_X10_giveOn ml_X10_143 rc_27 rfl rfl ar3 (Nat.le_of_ble_eq_true rfl) dX10_gift_33 ?_
      refine kj_ald0 (pc := 36) C dX10_gift_36 ?_
      refine gf_X10_19 (pc := 37) C dX10_gift_37 ?_
      refine kj_bipush (pc := 40) C (v := 6) dX10_gift_40 cb_6 ?_
      refine kj_ild1 (pc := 42) C dX10_gift_42 ?_
      refine kj_iadd (pc := 43) C dX10_gift_43 ?_
      obtain ⟨x8, ex8, h⟩ := of_lt h
      refine kj_ni ex8 ?_
      obtain ⟨c7, h⟩ := of_gd h
      refine kj_iald2 (pc := 44) C ia_27_4 c7 dX10_gift_44 ?_
      cases h
      exact kj_iret (pc := 45) C hr hR dX10_gift_45
    · have h := of_pos c4 h
      refine kj_bipush (pc := 22) C (v := (-2)) dX10_gift_22 cb_m2 ?_
      cases h
      exact kj_iret (pc := 24) C hr hR dX10_gift_24
  · have h := of_pos c2 h
    refine kj_iconst (pc := 8) C (v := (-1)) dX10_gift_8 ci_m1 ?_
    cases h
    exact kj_iret (pc := 9) C hr hR dX10_gift_9
def f_X10_changeOn (v1 : Int32) (v2 : Int32) (v3 : Int32) (M : Mem) : Option (Mem) := lt_ (((20 : Int32) * v1) + v2) (fun x2 => if ¬ (x2 < 0 ∨ 40 ≤ x2.toNatClampNeg) then lt_ (M.1 27 4 x2.toNatClampNeg) (fun x3 => lt_ (((20 : Int32) * v1) + v3) (fun x5 => if ¬ (x5 < 0 ∨ 40 ≤ x5.toNatClampNeg) then lt_ (((20 : Int32) * v1) + v2) (fun x7 => if ¬ (x7 < 0 ∨ 40 ≤ x7.toNatClampNeg) then lt_ (sw M 27 4 x7.toNatClampNeg (M.1 27 4 x5.toNatClampNeg)) (fun M8 => lt_ (((20 : Int32) * v1) + v3) (fun x10 => if ¬ (x10 < 0 ∨ 40 ≤ x10.toNatClampNeg) then lt_ (sw M8 27 4 x10.toNatClampNeg x3) (fun M11 => some M11) else none)) else none) else none)) else none)
set_option maxHeartbeats 4000000 in
set_option maxRecDepth 100000 in
theorem ct_X10_changeOn {g : GT} {l : Launch} {v1 : Int32} {v2 : Int32} {v3 : Int32} {M : Mem} {t : Mem} (h : f_X10_changeOn v1 v2 v3 M = some t) : Ct g l 0 yX10_changeOn cX10_changeOn 5 (none) [.ref (ga g 27 0), .int v1, .int v2, .int v3] M (none) t := by
  refine ct_of (k := 1) (by decide) (Nat.le_of_ble_eq_true rfl) rfl (fun X C hl hr hR => ?_)
  subst hl
  have C : Cx g X cX10_changeOn RX10 5 0 := C
  unfold f_X10_changeOn at h
  refine kj_ald0 (pc := 0) C dX10_changeOn_0 ?_
  refine gf_X10_19 (pc := 1) C dX10_changeOn_1 ?_
  refine kj_bipush (pc := 4) C (v := 20) dX10_changeOn_4 cb_20 ?_
  refine kj_ild1 (pc := 6) C dX10_changeOn_6 ?_
  refine kj_imul (pc := 7) C dX10_changeOn_7 ?_
  refine kj_ild2 (pc := 8) C dX10_changeOn_8 ?_
  refine kj_iadd (pc := 9) C dX10_changeOn_9 ?_
  obtain ⟨x2, ex2, h⟩ := of_lt h
  refine kj_ni ex2 ?_
  obtain ⟨c1, h⟩ := of_gd h
  refine kj_iald2 (pc := 10) C ia_27_4 c1 dX10_changeOn_10 ?_
  obtain ⟨x3, ex3, h⟩ := of_lt h
  refine kj_ni ex3 ?_
  refine kj_ist4 (pc := 11) C dX10_changeOn_11 (Nat.le_of_ble_eq_true rfl) rfl ?_
  refine kj_ald0 (pc := 13) C dX10_changeOn_13 ?_
  refine gf_X10_19 (pc := 14) C dX10_changeOn_14 ?_
  refine kj_bipush (pc := 17) C (v := 20) dX10_changeOn_17 cb_20 ?_
  refine kj_ild1 (pc := 19) C dX10_changeOn_19 ?_
  refine kj_imul (pc := 20) C dX10_changeOn_20 ?_
  refine kj_ild2 (pc := 21) C dX10_changeOn_21 ?_
  refine kj_iadd (pc := 22) C dX10_changeOn_22 ?_
  refine kj_ald0 (pc := 23) C dX10_changeOn_23 ?_
  refine gf_X10_19 (pc := 24) C dX10_changeOn_24 ?_
  refine kj_bipush (pc := 27) C (v := 20) dX10_changeOn_27 cb_20 ?_
  refine kj_ild1 (pc := 29) C dX10_changeOn_29 ?_
  refine kj_imul (pc := 30) C dX10_changeOn_30 ?_
  refine kj_ild3 (pc := 31) C dX10_changeOn_31 ?_
  refine kj_iadd (pc := 32) C dX10_changeOn_32 ?_
  obtain ⟨x5, ex5, h⟩ := of_lt h
  refine kj_ni ex5 ?_
  obtain ⟨c4, h⟩ := of_gd h
  refine kj_iald2 (pc := 33) C ia_27_4 c4 dX10_changeOn_33 ?_
  obtain ⟨x7, ex7, h⟩ := of_lt h
  refine kj_ni2 ex7 ?_
  obtain ⟨c6, h⟩ := of_gd h
  obtain ⟨M8, eM8, h⟩ := of_lt h
  refine kj_iast2 (pc := 34) C ia_27_4 c6 dX10_changeOn_34 ?_
  refine kj_nM eM8 ?_
  refine kj_ald0 (pc := 35) C dX10_changeOn_35 ?_
  refine gf_X10_19 (pc := 36) C dX10_changeOn_36 ?_
  refine kj_bipush (pc := 39) C (v := 20) dX10_changeOn_39 cb_20 ?_
  refine kj_ild1 (pc := 41) C dX10_changeOn_41 ?_
  refine kj_imul (pc := 42) C dX10_changeOn_42 ?_
  refine kj_ild3 (pc := 43) C dX10_changeOn_43 ?_
  refine kj_iadd (pc := 44) C dX10_changeOn_44 ?_
  refine kj_ild4 (pc := 45) C dX10_changeOn_45 ?_
  obtain ⟨x10, ex10, h⟩ := of_lt h
  refine kj_ni2 ex10 ?_
  obtain ⟨c9, h⟩ := of_gd h
  obtain ⟨M11, eM11, h⟩ := of_lt h
  refine kj_iast2 (pc := 47) C ia_27_4 c9 dX10_changeOn_47 ?_
  refine kj_nM eM11 ?_
  cases h
  exact kj_vret (pc := 48) C hr hR dX10_changeOn_48
def f_X10_change_16 (M : Mem) : Option (Int32 × Mem) := some (((-1) : Int32), M)
set_option maxHeartbeats 4000000 in
set_option maxRecDepth 100000 in
theorem k_X10_change_16 {g : GT} {X : XT} {t : Int32 × Mem} (C : Cx g X cX10_change RX10 3 2) (hr : (xt X).sig.returnType = some .int) (hR : Rt g X (some (.int t.1)) t.2) : ∀ (M : Mem) (w0 w1 w2 : Option Value), f_X10_change_16 M = some t → Kj g X 3 16 [w0, w1, w2] [] M := by
  intro M w0 w1 w2 h
  unfold f_X10_change_16 at h
  refine kj_iconst (pc := 16) C (v := (-1)) dX10_change_16 ci_m1 ?_
  cases h
  exact kj_iret (pc := 17) C hr hR dX10_change_17
def f_X10_change (v1 : Int32) (v2 : Int32) (M : Mem) : Option (Int32 × Mem) := (f_X10_isSinger v1 M).bind (fun q1 => if q1 = 0 then f_X10_change_16 M else (f_X10_isSinger v2 M).bind (fun q3 => if q3 = 0 then f_X10_change_16 M else if v1 = v2 then some (((-2) : Int32), M) else (f_X10_keepAct M).bind (fun q6 => (f_X10_changeOn 0 v1 v2 q6).bind (fun q7 => if ¬ (v1 < 0 ∨ 40 ≤ v1.toNatClampNeg) then some (q7.1 27 4 v1.toNatClampNeg, q7) else none))))
set_option maxHeartbeats 4000000 in
set_option maxRecDepth 100000 in
theorem ct_X10_change {g : GT} {l : Launch} {v1 : Int32} {v2 : Int32} {M : Mem} {t : Int32 × Mem} (h : f_X10_change v1 v2 M = some t) : Ct g l 2 yX10_change cX10_change 3 (some .int) [.ref (ga g 27 0), .int v1, .int v2] M (some (.int t.1)) t.2 := by
  refine ct_of (k := 0) (by decide) (Nat.le_of_ble_eq_true rfl) rfl (fun X C hl hr hR => ?_)
  subst hl
  have C : Cx g X cX10_change RX10 3 2 := C
  unfold f_X10_change at h
  refine kj_ald0 (pc := 0) C dX10_change_0 ?_
  refine kj_ild1 (pc := 1) C dX10_change_1 ?_
  obtain ⟨q1, eq1, h⟩ := of_bind h
  refine kj_callV1 (pc := 2) C (ct_X10_isSinger eq1) (Nat.le_of_ble_eq_true rfl) mi_X10_isSinger ml_X10_119 rc_27 rfl rfl ar1 (Nat.le_of_ble_eq_true rfl) dX10_change_2 ?_
  refine kj_if_eq (pc := 5) C dX10_change_5 (tgt := 16) (by decide) (fun c2 => ?_) (fun c2 => ?_)
  · have h := of_pos c2 h
    exact k_X10_change_16 C hr hR  _ _ _ _ h
  · have h := of_neg c2 h
    refine kj_ald0 (pc := 8) C dX10_change_8 ?_
    refine kj_ild2 (pc := 9) C dX10_change_9 ?_
    obtain ⟨q3, eq3, h⟩ := of_bind h
    refine kj_callV1 (pc := 10) C (ct_X10_isSinger eq3) (Nat.le_of_ble_eq_true rfl) mi_X10_isSinger ml_X10_119 rc_27 rfl rfl ar1 (Nat.le_of_ble_eq_true rfl) dX10_change_10 ?_
    refine kj_if_ne (pc := 13) C dX10_change_13 (tgt := 18) (by decide) (fun c4 => ?_) (fun c4 => ?_)
    · have h := of_neg c4 h
      refine kj_ild1 (pc := 18) C dX10_change_18 ?_
      refine kj_ild2 (pc := 19) C dX10_change_19 ?_
      refine kj_icmp_ne (pc := 20) C dX10_change_20 (tgt := 26) (by decide) (fun c5 => ?_) (fun c5 => ?_)
      · have h := of_neg c5 h
        refine kj_ald0 (pc := 26) C dX10_change_26 ?_
        obtain ⟨q6, eq6, h⟩ := of_bind h
        refine kj_callV0 (pc := 27) C (ct_X10_keepAct eq6) (Nat.le_of_ble_eq_true rfl) mi_X10_keepAct ml_X10_131 rc_27 rfl rfl ar0 (Nat.le_of_ble_eq_true rfl) dX10_change_27 ?_
        refine kj_ald0 (pc := 30) C dX10_change_30 ?_
        refine kj_iconst (pc := 31) C (v := 0) dX10_change_31 ci_0 ?_
        refine kj_ild1 (pc := 32) C dX10_change_32 ?_
        refine kj_ild2 (pc := 33) C dX10_change_33 ?_
        obtain ⟨q7, eq7, h⟩ := of_bind h
        refine kj_callV0 (pc := 34) C (ct_X10_changeOn eq7) (Nat.le_of_ble_eq_true rfl) mi_X10_changeOn ml_X10_147 rc_27 rfl rfl ar3 (Nat.le_of_ble_eq_true rfl) dX10_change_34 ?_
        refine kj_ald0 (pc := 37) C dX10_change_37 ?_
        refine gf_X10_19 (pc := 38) C dX10_change_38 ?_
        refine kj_ild1 (pc := 41) C dX10_change_41 ?_
        obtain ⟨c8, h⟩ := of_gd h
        refine kj_iald2 (pc := 42) C ia_27_4 c8 dX10_change_42 ?_
        cases h
        exact kj_iret (pc := 43) C hr hR dX10_change_43
      · have h := of_pos c5 h
        refine kj_bipush (pc := 23) C (v := (-2)) dX10_change_23 cb_m2 ?_
        cases h
        exact kj_iret (pc := 25) C hr hR dX10_change_25
    · have h := of_pos c4 h
      exact k_X10_change_16 C hr hR  _ _ _ _ h
def f_X10_pitch (M : Mem) : Option (Int32 × Mem) := (f_X10_keepAct M).bind (fun q1 => (f_X10_pitchOn 0 q1).bind (fun q2 => (f_X10_notesOn 0 q2).bind (fun q3 => (f_X10_ones q3 q2).bind (fun q4 => some (q4, q2)))))
set_option maxHeartbeats 4000000 in
set_option maxRecDepth 100000 in
theorem ct_X10_pitch {g : GT} {l : Launch} {M : Mem} {t : Int32 × Mem} (h : f_X10_pitch M = some t) : Ct g l 2 yX10_pitch cX10_pitch 1 (some .int) [.ref (ga g 27 0)] M (some (.int t.1)) t.2 := by
  refine ct_of (k := 0) (by decide) (Nat.le_of_ble_eq_true rfl) rfl (fun X C hl hr hR => ?_)
  subst hl
  have C : Cx g X cX10_pitch RX10 1 2 := C
  unfold f_X10_pitch at h
  refine kj_ald0 (pc := 0) C dX10_pitch_0 ?_
  obtain ⟨q1, eq1, h⟩ := of_bind h
  refine kj_callV0 (pc := 1) C (ct_X10_keepAct eq1) (Nat.le_of_ble_eq_true rfl) mi_X10_keepAct ml_X10_131 rc_27 rfl rfl ar0 (Nat.le_of_ble_eq_true rfl) dX10_pitch_1 ?_
  refine kj_ald0 (pc := 4) C dX10_pitch_4 ?_
  refine kj_iconst (pc := 5) C (v := 0) dX10_pitch_5 ci_0 ?_
  obtain ⟨q2, eq2, h⟩ := of_bind h
  refine kj_callV0 (pc := 6) C (ct_X10_pitchOn eq2) (Nat.le_of_ble_eq_true rfl) mi_X10_pitchOn ml_X10_150 rc_27 rfl rfl ar1 (Nat.le_of_ble_eq_true rfl) dX10_pitch_6 ?_
  refine kj_ald0 (pc := 9) C dX10_pitch_9 ?_
  refine kj_iconst (pc := 10) C (v := 0) dX10_pitch_10 ci_0 ?_
  obtain ⟨q3, eq3, h⟩ := of_bind h
  refine kj_callV1 (pc := 11) C (ct_X10_notesOn eq3) (Nat.le_of_ble_eq_true rfl) mi_X10_notesOn ml_X10_137 rc_27 rfl rfl ar1 (Nat.le_of_ble_eq_true rfl) dX10_pitch_11 ?_
  obtain ⟨q4, eq4, h⟩ := of_bind h
  refine kj_callS1 (pc := 14) C (ct_X10_ones eq4) (Nat.le_of_ble_eq_true rfl) mi_X10_ones ml_X10_140 rfl as1 (Nat.le_of_ble_eq_true rfl) dX10_pitch_14 ?_
  cases h
  exact kj_iret (pc := 17) C hr hR dX10_pitch_17
def f_X10_hold (v1 : Int32) (M : Mem) : Option (Int32 × Mem) := (f_X10_isSinger v1 M).bind (fun q1 => if q1 = 0 then some (((-1) : Int32), M) else (f_X10_keepAct M).bind (fun q3 => if ¬ ((18 : Int32) < 0 ∨ 40 ≤ (18 : Int32).toNatClampNeg) then if ¬ ((18 : Int32) < 0 ∨ 40 ≤ (18 : Int32).toNatClampNeg) then lt_ (sw q3 27 4 (18 : Int32).toNatClampNeg ((q3.1 27 4 (18 : Int32).toNatClampNeg) ^^^ ((1 : Int32) <<< (v1 &&& 31)))) (fun M6 => if ¬ ((18 : Int32) < 0 ∨ 40 ≤ (18 : Int32).toNatClampNeg) then some (((M6.1 27 4 (18 : Int32).toNatClampNeg) >>> (v1 &&& 31)) &&& (1 : Int32), M6) else none) else none else none))
set_option maxHeartbeats 4000000 in
set_option maxRecDepth 100000 in
theorem ct_X10_hold {g : GT} {l : Launch} {v1 : Int32} {M : Mem} {t : Int32 × Mem} (h : f_X10_hold v1 M = some t) : Ct g l 2 yX10_hold cX10_hold 2 (some .int) [.ref (ga g 27 0), .int v1] M (some (.int t.1)) t.2 := by
  refine ct_of (k := 0) (by decide) (Nat.le_of_ble_eq_true rfl) rfl (fun X C hl hr hR => ?_)
  subst hl
  have C : Cx g X cX10_hold RX10 2 2 := C
  unfold f_X10_hold at h
  refine kj_ald0 (pc := 0) C dX10_hold_0 ?_
  refine kj_ild1 (pc := 1) C dX10_hold_1 ?_
  obtain ⟨q1, eq1, h⟩ := of_bind h
  refine kj_callV1 (pc := 2) C (ct_X10_isSinger eq1) (Nat.le_of_ble_eq_true rfl) mi_X10_isSinger ml_X10_119 rc_27 rfl rfl ar1 (Nat.le_of_ble_eq_true rfl) dX10_hold_2 ?_
  refine kj_if_ne (pc := 5) C dX10_hold_5 (tgt := 10) (by decide) (fun c2 => ?_) (fun c2 => ?_)
  · have h := of_neg c2 h
    refine kj_ald0 (pc := 10) C dX10_hold_10 ?_
    obtain ⟨q3, eq3, h⟩ := of_bind h
    refine kj_callV0 (pc := 11) C (ct_X10_keepAct eq3) (Nat.le_of_ble_eq_true rfl) mi_X10_keepAct ml_X10_131 rc_27 rfl rfl ar0 (Nat.le_of_ble_eq_true rfl) dX10_hold_11 ?_
    refine kj_ald0 (pc := 14) C dX10_hold_14 ?_
    refine gf_X10_19 (pc := 15) C dX10_hold_15 ?_
    refine kj_bipush (pc := 18) C (v := 18) dX10_hold_18 cb_18 ?_
    refine kj_dup2 (pc := 20) C dX10_hold_20 rfl rfl ?_
    obtain ⟨c4, h⟩ := of_gd h
    refine kj_iald2 (pc := 21) C ia_27_4 c4 dX10_hold_21 ?_
    refine kj_iconst (pc := 22) C (v := 1) dX10_hold_22 ci_1 ?_
    refine kj_ild1 (pc := 23) C dX10_hold_23 ?_
    refine kj_ishl (pc := 24) C dX10_hold_24 ?_
    refine kj_ixor (pc := 25) C dX10_hold_25 ?_
    obtain ⟨c5, h⟩ := of_gd h
    obtain ⟨M6, eM6, h⟩ := of_lt h
    refine kj_iast2 (pc := 26) C ia_27_4 c5 dX10_hold_26 ?_
    refine kj_nM eM6 ?_
    refine kj_ald0 (pc := 27) C dX10_hold_27 ?_
    refine gf_X10_19 (pc := 28) C dX10_hold_28 ?_
    refine kj_bipush (pc := 31) C (v := 18) dX10_hold_31 cb_18 ?_
    obtain ⟨c7, h⟩ := of_gd h
    refine kj_iald2 (pc := 33) C ia_27_4 c7 dX10_hold_33 ?_
    refine kj_ild1 (pc := 34) C dX10_hold_34 ?_
    refine kj_ishr (pc := 35) C dX10_hold_35 ?_
    refine kj_iconst (pc := 36) C (v := 1) dX10_hold_36 ci_1 ?_
    refine kj_iand (pc := 37) C dX10_hold_37 ?_
    cases h
    exact kj_iret (pc := 38) C hr hR dX10_hold_38
  · have h := of_pos c2 h
    refine kj_iconst (pc := 8) C (v := (-1)) dX10_hold_8 ci_m1 ?_
    cases h
    exact kj_iret (pc := 9) C hr hR dX10_hold_9
def f_X10_undo_36 (n : Nat) (v1 : Int32) (M : Mem) : Option (Int32 × Mem) := match n with
  | 0 => none
  | n + 1 => if 20 ≤ v1 then some (M.1 27 0 14, M) else lt_ (((20 : Int32) * (M.1 27 0 15)) + v1) (fun x3 => if ¬ (x3 < 0 ∨ 280 ≤ x3.toNatClampNeg) then if ¬ (v1 < 0 ∨ 40 ≤ v1.toNatClampNeg) then lt_ (sw M 27 4 v1.toNatClampNeg (M.1 27 8 x3.toNatClampNeg)) (fun M5 => lt_ (v1 + 1) (fun x6 => f_X10_undo_36 n x6 M5)) else none else none)
set_option maxHeartbeats 4000000 in
set_option maxRecDepth 100000 in
theorem k_X10_undo_36 {g : GT} {X : XT} {t : Int32 × Mem} (C : Cx g X cX10_undo RX10 2 0) (hr : (xt X).sig.returnType = some .int) (hR : Rt g X (some (.int t.1)) t.2) (n : Nat) : ∀ (v1 : Int32) (M : Mem), f_X10_undo_36 n v1 M = some t → Kj g X 2 36 [some (.ref (ga g 27 0)), some (.int v1)] [] M := by
  induction n with
  | zero => intro v1 M h; rw [f_X10_undo_36] at h; cases h
  | succ n ih =>
    intro v1 M h
    rw [f_X10_undo_36] at h
    refine kj_ild1 (pc := 36) C dX10_undo_36 ?_
    refine kj_bipush (pc := 37) C (v := 20) dX10_undo_37 cb_20 ?_
    refine kj_icmp_ge (pc := 39) C dX10_undo_39 (tgt := 68) (by decide) (fun c1 => ?_) (fun c1 => ?_)
    · have h := of_pos c1 h
      refine kj_ald0 (pc := 68) C dX10_undo_68 ?_
      refine gf_X10_99 (pc := 69) C dX10_undo_69 ?_
      cases h
      exact kj_iret (pc := 72) C hr hR dX10_undo_72
    · have h := of_neg c1 h
      refine kj_ald0 (pc := 42) C dX10_undo_42 ?_
      refine gf_X10_19 (pc := 43) C dX10_undo_43 ?_
      refine kj_ild1 (pc := 46) C dX10_undo_46 ?_
      refine kj_ald0 (pc := 47) C dX10_undo_47 ?_
      refine gf_X10_35 (pc := 48) C dX10_undo_48 ?_
      refine kj_bipush (pc := 51) C (v := 20) dX10_undo_51 cb_20 ?_
      refine kj_ald0 (pc := 53) C dX10_undo_53 ?_
      refine gf_X10_128 (pc := 54) C dX10_undo_54 ?_
      refine kj_imul (pc := 57) C dX10_undo_57 ?_
      refine kj_ild1 (pc := 58) C dX10_undo_58 ?_
      refine kj_iadd (pc := 59) C dX10_undo_59 ?_
      obtain ⟨x3, ex3, h⟩ := of_lt h
      refine kj_ni ex3 ?_
      obtain ⟨c2, h⟩ := of_gd h
      refine kj_iald2 (pc := 60) C ia_27_8 c2 dX10_undo_60 ?_
      obtain ⟨c4, h⟩ := of_gd h
      obtain ⟨M5, eM5, h⟩ := of_lt h
      refine kj_iast2 (pc := 61) C ia_27_4 c4 dX10_undo_61 ?_
      refine kj_nM eM5 ?_
      obtain ⟨x6, ex6, h⟩ := of_lt h
      refine kj_iinc1 (pc := 62) C (v := x6) dX10_undo_62 (Nat.le_of_ble_eq_true rfl) rfl (by rw [ex6, ci_1]) ?_
      refine kj_goto (pc := 65) C dX10_undo_65 (tgt := 36) (by decide) ?_
      exact ih _ _ h
def f_X10_undo (M : Mem) : Option (Int32 × Mem) := if (M.1 27 0 14) = 0 then some (((-3) : Int32), M) else lt_ (sw M 27 0 14 ((M.1 27 0 14) - (1 : Int32))) (fun M2 => lt_ ((M2.1 27 0 15) + (13 : Int32)) (fun x3 => lt_ (sw M2 27 0 15 (x3 - x3 / 14 * 14)) (fun M4 => f_X10_undo_36 100 0 M4)))
set_option maxHeartbeats 4000000 in
set_option maxRecDepth 100000 in
theorem ct_X10_undo {g : GT} {l : Launch} {M : Mem} {t : Int32 × Mem} (h : f_X10_undo M = some t) : Ct g l 0 yX10_undo cX10_undo 2 (some .int) [.ref (ga g 27 0)] M (some (.int t.1)) t.2 := by
  refine ct_of (k := 1) (by decide) (Nat.le_of_ble_eq_true rfl) rfl (fun X C hl hr hR => ?_)
  subst hl
  have C : Cx g X cX10_undo RX10 2 0 := C
  unfold f_X10_undo at h
  refine kj_ald0 (pc := 0) C dX10_undo_0 ?_
  refine gf_X10_99 (pc := 1) C dX10_undo_1 ?_
  refine kj_if_ne (pc := 4) C dX10_undo_4 (tgt := 10) (by decide) (fun c1 => ?_) (fun c1 => ?_)
  · have h := of_neg c1 h
    refine kj_ald0 (pc := 10) C dX10_undo_10 ?_
    refine kj_dup (pc := 11) C dX10_undo_11 rfl ?_
    refine gf_X10_99 (pc := 12) C dX10_undo_12 ?_
    refine kj_iconst (pc := 15) C (v := 1) dX10_undo_15 ci_1 ?_
    refine kj_isub (pc := 16) C dX10_undo_16 ?_
    obtain ⟨M2, eM2, h⟩ := of_lt h
    refine pf_X10_99 (pc := 17) C dX10_undo_17 ?_
    refine kj_nM eM2 ?_
    refine kj_ald0 (pc := 20) C dX10_undo_20 ?_
    refine kj_ald0 (pc := 21) C dX10_undo_21 ?_
    refine gf_X10_128 (pc := 22) C dX10_undo_22 ?_
    refine kj_bipush (pc := 25) C (v := 13) dX10_undo_25 cb_13 ?_
    refine kj_iadd (pc := 27) C dX10_undo_27 ?_
    refine kj_bipush (pc := 28) C (v := 14) dX10_undo_28 cb_14 ?_
    obtain ⟨x3, ex3, h⟩ := of_lt h
    rw [← ex3]
    refine kj_irem (pc := 30) C dX10_undo_30 (by decide) ?_
    obtain ⟨M4, eM4, h⟩ := of_lt h
    refine pf_X10_128 (pc := 31) C dX10_undo_31 ?_
    refine kj_nM eM4 ?_
    refine kj_iconst (pc := 34) C (v := 0) dX10_undo_34 ci_0 ?_
    refine kj_ist1 (pc := 35) C dX10_undo_35 (Nat.le_of_ble_eq_true rfl) rfl ?_
    exact k_X10_undo_36 C hr hR 100 _ _ h
  · have h := of_pos c1 h
    refine kj_bipush (pc := 7) C (v := (-3)) dX10_undo_7 cb_m3 ?_
    cases h
    exact kj_iret (pc := 9) C hr hR dX10_undo_9
def f_X10_layTrial_2 (n : Nat) (v1 : Int32) (M : Mem) : Option (Mem) := match n with
  | 0 => none
  | n + 1 => if 20 ≤ v1 then some M else if ¬ (v1 < 0 ∨ 40 ≤ v1.toNatClampNeg) then lt_ ((20 : Int32) + v1) (fun x4 => if ¬ (x4 < 0 ∨ 40 ≤ x4.toNatClampNeg) then lt_ (sw M 27 4 x4.toNatClampNeg (M.1 27 4 v1.toNatClampNeg)) (fun M5 => lt_ (v1 + 1) (fun x6 => f_X10_layTrial_2 n x6 M5)) else none) else none
set_option maxHeartbeats 4000000 in
set_option maxRecDepth 100000 in
theorem k_X10_layTrial_2 {g : GT} {X : XT} {t : Mem} (C : Cx g X cX10_layTrial RX10 2 0) (hr : (xt X).sig.returnType = none) (hR : Rt g X none t) (n : Nat) : ∀ (v1 : Int32) (M : Mem), f_X10_layTrial_2 n v1 M = some t → Kj g X 2 2 [some (.ref (ga g 27 0)), some (.int v1)] [] M := by
  induction n with
  | zero => intro v1 M h; rw [f_X10_layTrial_2] at h; cases h
  | succ n ih =>
    intro v1 M h
    rw [f_X10_layTrial_2] at h
    refine kj_ild1 (pc := 2) C dX10_layTrial_2 ?_
    refine kj_bipush (pc := 3) C (v := 20) dX10_layTrial_3 cb_20 ?_
    refine kj_icmp_ge (pc := 5) C dX10_layTrial_5 (tgt := 29) (by decide) (fun c1 => ?_) (fun c1 => ?_)
    · have h := of_pos c1 h
      cases h
      exact kj_vret (pc := 29) C hr hR dX10_layTrial_29
    · have h := of_neg c1 h
      refine kj_ald0 (pc := 8) C dX10_layTrial_8 ?_
      refine gf_X10_19 (pc := 9) C dX10_layTrial_9 ?_
      refine kj_bipush (pc := 12) C (v := 20) dX10_layTrial_12 cb_20 ?_
      refine kj_ild1 (pc := 14) C dX10_layTrial_14 ?_
      refine kj_iadd (pc := 15) C dX10_layTrial_15 ?_
      refine kj_ald0 (pc := 16) C dX10_layTrial_16 ?_
      refine gf_X10_19 (pc := 17) C dX10_layTrial_17 ?_
      refine kj_ild1 (pc := 20) C dX10_layTrial_20 ?_
      obtain ⟨c2, h⟩ := of_gd h
      refine kj_iald2 (pc := 21) C ia_27_4 c2 dX10_layTrial_21 ?_
      obtain ⟨x4, ex4, h⟩ := of_lt h
      refine kj_ni2 ex4 ?_
      obtain ⟨c3, h⟩ := of_gd h
      obtain ⟨M5, eM5, h⟩ := of_lt h
      refine kj_iast2 (pc := 22) C ia_27_4 c3 dX10_layTrial_22 ?_
      refine kj_nM eM5 ?_
      obtain ⟨x6, ex6, h⟩ := of_lt h
      refine kj_iinc1 (pc := 23) C (v := x6) dX10_layTrial_23 (Nat.le_of_ble_eq_true rfl) rfl (by rw [ex6, ci_1]) ?_
      refine kj_goto (pc := 26) C dX10_layTrial_26 (tgt := 2) (by decide) ?_
      exact ih _ _ h
def f_X10_layTrial (M : Mem) : Option (Mem) := f_X10_layTrial_2 100 0 M
set_option maxHeartbeats 4000000 in
set_option maxRecDepth 100000 in
theorem ct_X10_layTrial {g : GT} {l : Launch} {M : Mem} {t : Mem} (h : f_X10_layTrial M = some t) : Ct g l 0 yX10_layTrial cX10_layTrial 2 (none) [.ref (ga g 27 0)] M (none) t := by
  refine ct_of (k := 1) (by decide) (Nat.le_of_ble_eq_true rfl) rfl (fun X C hl hr hR => ?_)
  subst hl
  have C : Cx g X cX10_layTrial RX10 2 0 := C
  unfold f_X10_layTrial at h
  refine kj_iconst (pc := 0) C (v := 0) dX10_layTrial_0 ci_0 ?_
  refine kj_ist1 (pc := 1) C dX10_layTrial_1 (Nat.le_of_ble_eq_true rfl) rfl ?_
  exact k_X10_layTrial_2 C hr hR 100 _ _ h
def f_X10_goOn_2 (n : Nat) (v1 : Int32) (v2 : Int32) (M : Mem) : Option (Mem) := match n with
  | 0 => none
  | n + 1 => if v1 ≤ v2 then some M else (f_X10_passOn 1 M).bind (fun q2 => lt_ (v2 + 1) (fun x3 => f_X10_goOn_2 n v1 x3 q2))
set_option maxHeartbeats 4000000 in
set_option maxRecDepth 100000 in
theorem k_X10_goOn_2 {g : GT} {X : XT} {t : Mem} (C : Cx g X cX10_goOn RX10 3 5) (hr : (xt X).sig.returnType = none) (hR : Rt g X none t) (n : Nat) : ∀ (v1 : Int32) (v2 : Int32) (M : Mem), f_X10_goOn_2 n v1 v2 M = some t → Kj g X 3 2 [some (.ref (ga g 27 0)), some (.int v1), some (.int v2)] [] M := by
  induction n with
  | zero => intro v1 v2 M h; rw [f_X10_goOn_2] at h; cases h
  | succ n ih =>
    intro v1 v2 M h
    rw [f_X10_goOn_2] at h
    refine kj_ild2 (pc := 2) C dX10_goOn_2 ?_
    refine kj_ild1 (pc := 3) C dX10_goOn_3 ?_
    refine kj_icmp_ge (pc := 4) C dX10_goOn_4 (tgt := 18) (by decide) (fun c1 => ?_) (fun c1 => ?_)
    · have h := of_pos c1 h
      cases h
      exact kj_vret (pc := 18) C hr hR dX10_goOn_18
    · have h := of_neg c1 h
      refine kj_ald0 (pc := 7) C dX10_goOn_7 ?_
      refine kj_iconst (pc := 8) C (v := 1) dX10_goOn_8 ci_1 ?_
      obtain ⟨q2, eq2, h⟩ := of_bind h
      refine kj_callV0 (pc := 9) C (ct_X10_passOn eq2) (Nat.le_of_ble_eq_true rfl) mi_X10_passOn ml_X10_134 rc_27 rfl rfl ar1 (Nat.le_of_ble_eq_true rfl) dX10_goOn_9 ?_
      obtain ⟨x3, ex3, h⟩ := of_lt h
      refine kj_iinc2 (pc := 12) C (v := x3) dX10_goOn_12 (Nat.le_of_ble_eq_true rfl) rfl (by rw [ex3, ci_1]) ?_
      refine kj_goto (pc := 15) C dX10_goOn_15 (tgt := 2) (by decide) ?_
      exact ih _ _ _ h
def f_X10_goOn (v1 : Int32) (M : Mem) : Option (Mem) := f_X10_goOn_2 100 v1 0 M
set_option maxHeartbeats 4000000 in
set_option maxRecDepth 100000 in
theorem ct_X10_goOn {g : GT} {l : Launch} {v1 : Int32} {M : Mem} {t : Mem} (h : f_X10_goOn v1 M = some t) : Ct g l 5 yX10_goOn cX10_goOn 3 (none) [.ref (ga g 27 0), .int v1] M (none) t := by
  refine ct_of (k := 1) (by decide) (Nat.le_of_ble_eq_true rfl) rfl (fun X C hl hr hR => ?_)
  subst hl
  have C : Cx g X cX10_goOn RX10 3 5 := C
  unfold f_X10_goOn at h
  refine kj_iconst (pc := 0) C (v := 0) dX10_goOn_0 ci_0 ?_
  refine kj_ist2 (pc := 1) C dX10_goOn_1 (Nat.le_of_ble_eq_true rfl) rfl ?_
  exact k_X10_goOn_2 C hr hR 100 _ _ _ h
def f_X10_sings (v1 : Int32) (v2 : Int32) (M : Mem) : Option (Int32 × Mem) := (f_X10_isSinger v1 M).bind (fun q1 => if q1 = 0 then some (((-1) : Int32), M) else (f_X10_in v2.toInt64 0 60 M).bind (fun q3 => if q3 = 0 then some (((-2) : Int32), M) else (f_X10_layTrial M).bind (fun q5 => (f_X10_goOn v2 q5).bind (fun q6 => lt_ ((32 : Int32) + v1) (fun x8 => if ¬ (x8 < 0 ∨ 40 ≤ x8.toNatClampNeg) then some (q6.1 27 4 x8.toNatClampNeg, q6) else none)))))
set_option maxHeartbeats 4000000 in
set_option maxRecDepth 100000 in
theorem ct_X10_sings {g : GT} {l : Launch} {v1 : Int32} {v2 : Int32} {M : Mem} {t : Int32 × Mem} (h : f_X10_sings v1 v2 M = some t) : Ct g l 6 yX10_sings cX10_sings 3 (some .int) [.ref (ga g 27 0), .int v1, .int v2] M (some (.int t.1)) t.2 := by
  refine ct_of (k := 0) (by decide) (Nat.le_of_ble_eq_true rfl) rfl (fun X C hl hr hR => ?_)
  subst hl
  have C : Cx g X cX10_sings RX10 3 6 := C
  unfold f_X10_sings at h
  refine kj_ald0 (pc := 0) C dX10_sings_0 ?_
  refine kj_ild1 (pc := 1) C dX10_sings_1 ?_
  obtain ⟨q1, eq1, h⟩ := of_bind h
  refine kj_callV1 (pc := 2) C (ct_X10_isSinger eq1) (Nat.le_of_ble_eq_true rfl) mi_X10_isSinger ml_X10_119 rc_27 rfl rfl ar1 (Nat.le_of_ble_eq_true rfl) dX10_sings_2 ?_
  refine kj_if_ne (pc := 5) C dX10_sings_5 (tgt := 10) (by decide) (fun c2 => ?_) (fun c2 => ?_)
  · have h := of_neg c2 h
    refine kj_ild2 (pc := 10) C dX10_sings_10 ?_
    refine kj_i2l (pc := 11) C dX10_sings_11 ?_
    refine kj_lconst (pc := 12) C (v := 0) dX10_sings_12 cl_0 ?_
    refine kj_ldc2 (pc := 13) C cn_X10_153 dX10_sings_13 ?_
    obtain ⟨q3, eq3, h⟩ := of_bind h
    refine kj_callS1 (pc := 16) C (ct_X10_in eq3) (Nat.le_of_ble_eq_true rfl) mi_X10_in ml_X10_59 rfl as3 (Nat.le_of_ble_eq_true rfl) dX10_sings_16 ?_
    refine kj_if_ne (pc := 19) C dX10_sings_19 (tgt := 25) (by decide) (fun c4 => ?_) (fun c4 => ?_)
    · have h := of_neg c4 h
      refine kj_ald0 (pc := 25) C dX10_sings_25 ?_
      obtain ⟨q5, eq5, h⟩ := of_bind h
      refine kj_callV0 (pc := 26) C (ct_X10_layTrial eq5) (Nat.le_of_ble_eq_true rfl) mi_X10_layTrial ml_X10_155 rc_27 rfl rfl ar0 (Nat.le_of_ble_eq_true rfl) dX10_sings_26 ?_
      refine kj_ald0 (pc := 29) C dX10_sings_29 ?_
      refine kj_ild2 (pc := 30) C dX10_sings_30 ?_
      obtain ⟨q6, eq6, h⟩ := of_bind h
      refine kj_callV0 (pc := 31) C (ct_X10_goOn eq6) (Nat.le_of_ble_eq_true rfl) mi_X10_goOn ml_X10_158 rc_27 rfl rfl ar1 (Nat.le_of_ble_eq_true rfl) dX10_sings_31 ?_
      refine kj_ald0 (pc := 34) C dX10_sings_34 ?_
      refine gf_X10_19 (pc := 35) C dX10_sings_35 ?_
      refine kj_bipush (pc := 38) C (v := 32) dX10_sings_38 cb_32 ?_
      refine kj_ild1 (pc := 40) C dX10_sings_40 ?_
      refine kj_iadd (pc := 41) C dX10_sings_41 ?_
      obtain ⟨x8, ex8, h⟩ := of_lt h
      refine kj_ni ex8 ?_
      obtain ⟨c7, h⟩ := of_gd h
      refine kj_iald2 (pc := 42) C ia_27_4 c7 dX10_sings_42 ?_
      cases h
      exact kj_iret (pc := 43) C hr hR dX10_sings_43
    · have h := of_pos c4 h
      refine kj_bipush (pc := 22) C (v := (-2)) dX10_sings_22 cb_m2 ?_
      cases h
      exact kj_iret (pc := 24) C hr hR dX10_sings_24
  · have h := of_pos c2 h
    refine kj_iconst (pc := 8) C (v := (-1)) dX10_sings_8 ci_m1 ?_
    cases h
    exact kj_iret (pc := 9) C hr hR dX10_sings_9
def f_X10_notes (v1 : Int32) (M : Mem) : Option (Int32 × Mem) := (f_X10_in v1.toInt64 0 60 M).bind (fun q1 => if q1 = 0 then some (((-2) : Int32), M) else (f_X10_layTrial M).bind (fun q3 => (f_X10_goOn v1 q3).bind (fun q4 => (f_X10_notesOn 1 q4).bind (fun q5 => (f_X10_ones q5 q4).bind (fun q6 => some (q6, q4))))))
set_option maxHeartbeats 4000000 in
set_option maxRecDepth 100000 in
theorem ct_X10_notes {g : GT} {l : Launch} {v1 : Int32} {M : Mem} {t : Int32 × Mem} (h : f_X10_notes v1 M = some t) : Ct g l 6 yX10_notes cX10_notes 2 (some .int) [.ref (ga g 27 0), .int v1] M (some (.int t.1)) t.2 := by
  refine ct_of (k := 0) (by decide) (Nat.le_of_ble_eq_true rfl) rfl (fun X C hl hr hR => ?_)
  subst hl
  have C : Cx g X cX10_notes RX10 2 6 := C
  unfold f_X10_notes at h
  refine kj_ild1 (pc := 0) C dX10_notes_0 ?_
  refine kj_i2l (pc := 1) C dX10_notes_1 ?_
  refine kj_lconst (pc := 2) C (v := 0) dX10_notes_2 cl_0 ?_
  refine kj_ldc2 (pc := 3) C cn_X10_153 dX10_notes_3 ?_
  obtain ⟨q1, eq1, h⟩ := of_bind h
  refine kj_callS1 (pc := 6) C (ct_X10_in eq1) (Nat.le_of_ble_eq_true rfl) mi_X10_in ml_X10_59 rfl as3 (Nat.le_of_ble_eq_true rfl) dX10_notes_6 ?_
  refine kj_if_ne (pc := 9) C dX10_notes_9 (tgt := 15) (by decide) (fun c2 => ?_) (fun c2 => ?_)
  · have h := of_neg c2 h
    refine kj_ald0 (pc := 15) C dX10_notes_15 ?_
    obtain ⟨q3, eq3, h⟩ := of_bind h
    refine kj_callV0 (pc := 16) C (ct_X10_layTrial eq3) (Nat.le_of_ble_eq_true rfl) mi_X10_layTrial ml_X10_155 rc_27 rfl rfl ar0 (Nat.le_of_ble_eq_true rfl) dX10_notes_16 ?_
    refine kj_ald0 (pc := 19) C dX10_notes_19 ?_
    refine kj_ild1 (pc := 20) C dX10_notes_20 ?_
    obtain ⟨q4, eq4, h⟩ := of_bind h
    refine kj_callV0 (pc := 21) C (ct_X10_goOn eq4) (Nat.le_of_ble_eq_true rfl) mi_X10_goOn ml_X10_158 rc_27 rfl rfl ar1 (Nat.le_of_ble_eq_true rfl) dX10_notes_21 ?_
    refine kj_ald0 (pc := 24) C dX10_notes_24 ?_
    refine kj_iconst (pc := 25) C (v := 1) dX10_notes_25 ci_1 ?_
    obtain ⟨q5, eq5, h⟩ := of_bind h
    refine kj_callV1 (pc := 26) C (ct_X10_notesOn eq5) (Nat.le_of_ble_eq_true rfl) mi_X10_notesOn ml_X10_137 rc_27 rfl rfl ar1 (Nat.le_of_ble_eq_true rfl) dX10_notes_26 ?_
    obtain ⟨q6, eq6, h⟩ := of_bind h
    refine kj_callS1 (pc := 29) C (ct_X10_ones eq6) (Nat.le_of_ble_eq_true rfl) mi_X10_ones ml_X10_140 rfl as1 (Nat.le_of_ble_eq_true rfl) dX10_notes_29 ?_
    cases h
    exact kj_iret (pc := 32) C hr hR dX10_notes_32
  · have h := of_pos c2 h
    refine kj_bipush (pc := 12) C (v := (-2)) dX10_notes_12 cb_m2 ?_
    cases h
    exact kj_iret (pc := 14) C hr hR dX10_notes_14
def f_X10_singAll_21 (k6 : Int32 → Mem → Option (Mem)) (n : Nat) (v1 : Int32) (v2 : Int32) (M : Mem) : Option (Mem) := match n with
  | 0 => none
  | n + 1 => if (M.1 27 0 0) ≤ v2 then (f_X10_passOn 1 M).bind (fun q2 => lt_ (v1 + 1) (fun x3 => k6 x3 q2)) else if ¬ (v1 < 0 ∨ 61 ≤ v1.toNatClampNeg) then lt_ ((32 : Int32) + v2) (fun x6 => if ¬ (x6 < 0 ∨ 40 ≤ x6.toNatClampNeg) then if ¬ (v1 < 0 ∨ 61 ≤ v1.toNatClampNeg) then lt_ (sw M 27 9 v1.toNatClampNeg (((10 : Int32) * (M.1 27 9 v1.toNatClampNeg)) + (M.1 27 4 x6.toNatClampNeg))) (fun M8 => lt_ (v2 + 1) (fun x9 => f_X10_singAll_21 k6 n v1 x9 M8)) else none else none) else none
set_option maxHeartbeats 4000000 in
set_option maxRecDepth 100000 in
theorem k_X10_singAll_21 {g : GT} {X : XT} {k6 : Int32 → Mem → Option (Mem)} {t : Mem} (C : Cx g X cX10_singAll RX10 3 5) (hr : (xt X).sig.returnType = none) (hR : Rt g X none t) (hk6 : ∀ (v1 : Int32) (M : Mem) (w2 : Option Value), k6 v1 M = some t → Kj g X 3 6 [some (.ref (ga g 27 0)), some (.int v1), w2] [] M) (n : Nat) : ∀ (v1 : Int32) (v2 : Int32) (M : Mem), f_X10_singAll_21 k6 n v1 v2 M = some t → Kj g X 3 21 [some (.ref (ga g 27 0)), some (.int v1), some (.int v2)] [] M := by
  induction n with
  | zero => intro v1 v2 M h; rw [f_X10_singAll_21] at h; cases h
  | succ n ih =>
    intro v1 v2 M h
    rw [f_X10_singAll_21] at h
    refine kj_ild2 (pc := 21) C dX10_singAll_21 ?_
    refine kj_ald0 (pc := 22) C dX10_singAll_22 ?_
    refine gf_X10_96 (pc := 23) C dX10_singAll_23 ?_
    refine kj_icmp_ge (pc := 26) C dX10_singAll_26 (tgt := 60) (by decide) (fun c1 => ?_) (fun c1 => ?_)
    · have h := of_pos c1 h
      refine kj_ald0 (pc := 60) C dX10_singAll_60 ?_
      refine kj_iconst (pc := 61) C (v := 1) dX10_singAll_61 ci_1 ?_
      obtain ⟨q2, eq2, h⟩ := of_bind h
      refine kj_callV0 (pc := 62) C (ct_X10_passOn eq2) (Nat.le_of_ble_eq_true rfl) mi_X10_passOn ml_X10_134 rc_27 rfl rfl ar1 (Nat.le_of_ble_eq_true rfl) dX10_singAll_62 ?_
      obtain ⟨x3, ex3, h⟩ := of_lt h
      refine kj_iinc1 (pc := 65) C (v := x3) dX10_singAll_65 (Nat.le_of_ble_eq_true rfl) rfl (by rw [ex3, ci_1]) ?_
      refine kj_goto (pc := 68) C dX10_singAll_68 (tgt := 6) (by decide) ?_
      exact hk6 _ _ _ h
    · have h := of_neg c1 h
      refine kj_ald0 (pc := 29) C dX10_singAll_29 ?_
      refine gf_X10_38 (pc := 30) C dX10_singAll_30 ?_
      refine kj_ild1 (pc := 33) C dX10_singAll_33 ?_
      refine kj_bipush (pc := 34) C (v := 10) dX10_singAll_34 cb_10 ?_
      refine kj_ald0 (pc := 36) C dX10_singAll_36 ?_
      refine gf_X10_38 (pc := 37) C dX10_singAll_37 ?_
      refine kj_ild1 (pc := 40) C dX10_singAll_40 ?_
      obtain ⟨c4, h⟩ := of_gd h
      refine kj_iald2 (pc := 41) C ia_27_9 c4 dX10_singAll_41 ?_
      refine kj_imul (pc := 42) C dX10_singAll_42 ?_
      refine kj_ald0 (pc := 43) C dX10_singAll_43 ?_
      refine gf_X10_19 (pc := 44) C dX10_singAll_44 ?_
      refine kj_bipush (pc := 47) C (v := 32) dX10_singAll_47 cb_32 ?_
      refine kj_ild2 (pc := 49) C dX10_singAll_49 ?_
      refine kj_iadd (pc := 50) C dX10_singAll_50 ?_
      obtain ⟨x6, ex6, h⟩ := of_lt h
      refine kj_ni ex6 ?_
      obtain ⟨c5, h⟩ := of_gd h
      refine kj_iald2 (pc := 51) C ia_27_4 c5 dX10_singAll_51 ?_
      refine kj_iadd (pc := 52) C dX10_singAll_52 ?_
      obtain ⟨c7, h⟩ := of_gd h
      obtain ⟨M8, eM8, h⟩ := of_lt h
      refine kj_iast2 (pc := 53) C ia_27_9 c7 dX10_singAll_53 ?_
      refine kj_nM eM8 ?_
      obtain ⟨x9, ex9, h⟩ := of_lt h
      refine kj_iinc2 (pc := 54) C (v := x9) dX10_singAll_54 (Nat.le_of_ble_eq_true rfl) rfl (by rw [ex9, ci_1]) ?_
      refine kj_goto (pc := 57) C dX10_singAll_57 (tgt := 21) (by decide) ?_
      exact ih _ _ _ h
def f_X10_singAll_6 (n : Nat) (v1 : Int32) (M : Mem) : Option (Mem) := match n with
  | 0 => none
  | n + 1 => if 60 < v1 then some M else if ¬ (v1 < 0 ∨ 61 ≤ v1.toNatClampNeg) then lt_ (sw M 27 9 v1.toNatClampNeg 0) (fun M3 => f_X10_singAll_21 (f_X10_singAll_6 n) 100 v1 0 M3) else none
set_option maxHeartbeats 4000000 in
set_option maxRecDepth 100000 in
theorem k_X10_singAll_6 {g : GT} {X : XT} {t : Mem} (C : Cx g X cX10_singAll RX10 3 5) (hr : (xt X).sig.returnType = none) (hR : Rt g X none t) (n : Nat) : ∀ (v1 : Int32) (M : Mem) (w2 : Option Value), f_X10_singAll_6 n v1 M = some t → Kj g X 3 6 [some (.ref (ga g 27 0)), some (.int v1), w2] [] M := by
  induction n with
  | zero => intro v1 M w2 h; rw [f_X10_singAll_6] at h; cases h
  | succ n ih =>
    intro v1 M w2 h
    rw [f_X10_singAll_6] at h
    refine kj_ild1 (pc := 6) C dX10_singAll_6 ?_
    refine kj_bipush (pc := 7) C (v := 60) dX10_singAll_7 cb_60 ?_
    refine kj_icmp_gt (pc := 9) C dX10_singAll_9 (tgt := 71) (by decide) (fun c1 => ?_) (fun c1 => ?_)
    · have h := of_pos c1 h
      cases h
      exact kj_vret (pc := 71) C hr hR dX10_singAll_71
    · have h := of_neg c1 h
      refine kj_ald0 (pc := 12) C dX10_singAll_12 ?_
      refine gf_X10_38 (pc := 13) C dX10_singAll_13 ?_
      refine kj_ild1 (pc := 16) C dX10_singAll_16 ?_
      refine kj_iconst (pc := 17) C (v := 0) dX10_singAll_17 ci_0 ?_
      obtain ⟨c2, h⟩ := of_gd h
      obtain ⟨M3, eM3, h⟩ := of_lt h
      refine kj_iast2 (pc := 18) C ia_27_9 c2 dX10_singAll_18 ?_
      refine kj_nM eM3 ?_
      refine kj_iconst (pc := 19) C (v := 0) dX10_singAll_19 ci_0 ?_
      refine kj_ist2 (pc := 20) C dX10_singAll_20 (Nat.le_of_ble_eq_true rfl) rfl ?_
      exact k_X10_singAll_21 C hr hR ih 100 _ _ _ h
def f_X10_singAll (M : Mem) : Option (Mem) := (f_X10_layTrial M).bind (fun q1 => f_X10_singAll_6 100 0 q1)
set_option maxHeartbeats 4000000 in
set_option maxRecDepth 100000 in
theorem ct_X10_singAll {g : GT} {l : Launch} {M : Mem} {t : Mem} (h : f_X10_singAll M = some t) : Ct g l 5 yX10_singAll cX10_singAll 3 (none) [.ref (ga g 27 0)] M (none) t := by
  refine ct_of (k := 2) (by decide) (Nat.le_of_ble_eq_true rfl) rfl (fun X C hl hr hR => ?_)
  subst hl
  have C : Cx g X cX10_singAll RX10 3 5 := C
  unfold f_X10_singAll at h
  refine kj_ald0 (pc := 0) C dX10_singAll_0 ?_
  obtain ⟨q1, eq1, h⟩ := of_bind h
  refine kj_callV0 (pc := 1) C (ct_X10_layTrial eq1) (Nat.le_of_ble_eq_true rfl) mi_X10_layTrial ml_X10_155 rc_27 rfl rfl ar0 (Nat.le_of_ble_eq_true rfl) dX10_singAll_1 ?_
  refine kj_iconst (pc := 4) C (v := 0) dX10_singAll_4 ci_0 ?_
  refine kj_ist1 (pc := 5) C dX10_singAll_5 (Nat.le_of_ble_eq_true rfl) rfl ?_
  exact k_X10_singAll_6 C hr hR 100 _ _ _ h
def f_X10_round_61 (s0 : Int32) (M : Mem) : Option (Int32 × Mem) := some (s0, M)
set_option maxHeartbeats 4000000 in
set_option maxRecDepth 100000 in
theorem k_X10_round_61 {g : GT} {X : XT} {t : Int32 × Mem} (C : Cx g X cX10_round RX10 4 6) (hr : (xt X).sig.returnType = some .int) (hR : Rt g X (some (.int t.1)) t.2) : ∀ (s0 : Int32) (M : Mem) (w0 w1 w2 w3 : Option Value), f_X10_round_61 s0 M = some t → Kj g X 4 61 [w0, w1, w2, w3] [.int s0] M := by
  intro s0 M w0 w1 w2 w3 h
  unfold f_X10_round_61 at h
  cases h
  exact kj_iret (pc := 61) C hr hR dX10_round_61
def f_X10_round_27 (k19 : Int32 → Int32 → Mem → Option (Int32 × Mem)) (n : Nat) (v1 : Int32) (v2 : Int32) (v3 : Int32) (M : Mem) : Option (Int32 × Mem) := match n with
  | 0 => none
  | n + 1 => if 60 < (v2 + v3) then lt_ (v2 + 1) (fun x2 => k19 v1 x2 M) else if ¬ (v2 < 0 ∨ 61 ≤ v2.toNatClampNeg) then lt_ (v2 + v3) (fun x5 => if ¬ (x5 < 0 ∨ 61 ≤ x5.toNatClampNeg) then if (M.1 27 9 v2.toNatClampNeg) = (M.1 27 9 x5.toNatClampNeg) then if v1 = 0 then f_X10_round_61 v2 M else f_X10_round_61 v3 M else lt_ (v3 + 1) (fun x7 => f_X10_round_27 k19 n v1 v2 x7 M) else none) else none
set_option maxHeartbeats 4000000 in
set_option maxRecDepth 100000 in
theorem k_X10_round_27 {g : GT} {X : XT} {k19 : Int32 → Int32 → Mem → Option (Int32 × Mem)} {t : Int32 × Mem} (C : Cx g X cX10_round RX10 4 6) (hr : (xt X).sig.returnType = some .int) (hR : Rt g X (some (.int t.1)) t.2) (hk19 : ∀ (v1 : Int32) (v2 : Int32) (M : Mem) (w3 : Option Value), k19 v1 v2 M = some t → Kj g X 4 19 [some (.ref (ga g 27 0)), some (.int v1), some (.int v2), w3] [] M) (n : Nat) : ∀ (v1 : Int32) (v2 : Int32) (v3 : Int32) (M : Mem), f_X10_round_27 k19 n v1 v2 v3 M = some t → Kj g X 4 27 [some (.ref (ga g 27 0)), some (.int v1), some (.int v2), some (.int v3)] [] M := by
  induction n with
  | zero => intro v1 v2 v3 M h; rw [f_X10_round_27] at h; cases h
  | succ n ih =>
    intro v1 v2 v3 M h
    rw [f_X10_round_27] at h
    refine kj_ild2 (pc := 27) C dX10_round_27 ?_
    refine kj_ild3 (pc := 28) C dX10_round_28 ?_
    refine kj_iadd (pc := 29) C dX10_round_29 ?_
    refine kj_bipush (pc := 30) C (v := 60) dX10_round_30 cb_60 ?_
    refine kj_icmp_gt (pc := 32) C dX10_round_32 (tgt := 68) (by decide) (fun c1 => ?_) (fun c1 => ?_)
    · have h := of_pos c1 h
      obtain ⟨x2, ex2, h⟩ := of_lt h
      refine kj_iinc2 (pc := 68) C (v := x2) dX10_round_68 (Nat.le_of_ble_eq_true rfl) rfl (by rw [ex2, ci_1]) ?_
      refine kj_goto (pc := 71) C dX10_round_71 (tgt := 19) (by decide) ?_
      exact hk19 _ _ _ _ h
    · have h := of_neg c1 h
      refine kj_ald0 (pc := 35) C dX10_round_35 ?_
      refine gf_X10_38 (pc := 36) C dX10_round_36 ?_
      refine kj_ild2 (pc := 39) C dX10_round_39 ?_
      obtain ⟨c3, h⟩ := of_gd h
      refine kj_iald2 (pc := 40) C ia_27_9 c3 dX10_round_40 ?_
      refine kj_ald0 (pc := 41) C dX10_round_41 ?_
      refine gf_X10_38 (pc := 42) C dX10_round_42 ?_
      refine kj_ild2 (pc := 45) C dX10_round_45 ?_
      refine kj_ild3 (pc := 46) C dX10_round_46 ?_
      refine kj_iadd (pc := 47) C dX10_round_47 ?_
      obtain ⟨x5, ex5, h⟩ := of_lt h
      refine kj_ni ex5 ?_
      obtain ⟨c4, h⟩ := of_gd h
      refine kj_iald2 (pc := 48) C ia_27_9 c4 dX10_round_48 ?_
      refine kj_icmp_ne (pc := 49) C dX10_round_49 (tgt := 62) (by decide) (fun c6 => ?_) (fun c6 => ?_)
      · have h := of_neg c6 h
        obtain ⟨x7, ex7, h⟩ := of_lt h
        refine kj_iinc3 (pc := 62) C (v := x7) dX10_round_62 (Nat.le_of_ble_eq_true rfl) rfl (by rw [ex7, ci_1]) ?_
        refine kj_goto (pc := 65) C dX10_round_65 (tgt := 27) (by decide) ?_
        exact ih _ _ _ _ h
      · have h := of_pos c6 h
        refine kj_ild1 (pc := 52) C dX10_round_52 ?_
        refine kj_if_ne (pc := 53) C dX10_round_53 (tgt := 60) (by decide) (fun c8 => ?_) (fun c8 => ?_)
        · have h := of_neg c8 h
          refine kj_ild3 (pc := 60) C dX10_round_60 ?_
          exact k_X10_round_61 C hr hR _ _ _ _ _ _ h
        · have h := of_pos c8 h
          refine kj_ild2 (pc := 56) C dX10_round_56 ?_
          refine kj_goto (pc := 57) C dX10_round_57 (tgt := 61) (by decide) ?_
          exact k_X10_round_61 C hr hR _ _ _ _ _ _ h
def f_X10_round_19 (n : Nat) (v1 : Int32) (v2 : Int32) (M : Mem) : Option (Int32 × Mem) := match n with
  | 0 => none
  | n + 1 => if 60 ≤ v2 then some (((-9) : Int32), M) else f_X10_round_27 (f_X10_round_19 n) 100 v1 v2 1 M
set_option maxHeartbeats 4000000 in
set_option maxRecDepth 100000 in
theorem k_X10_round_19 {g : GT} {X : XT} {t : Int32 × Mem} (C : Cx g X cX10_round RX10 4 6) (hr : (xt X).sig.returnType = some .int) (hR : Rt g X (some (.int t.1)) t.2) (n : Nat) : ∀ (v1 : Int32) (v2 : Int32) (M : Mem) (w3 : Option Value), f_X10_round_19 n v1 v2 M = some t → Kj g X 4 19 [some (.ref (ga g 27 0)), some (.int v1), some (.int v2), w3] [] M := by
  induction n with
  | zero => intro v1 v2 M w3 h; rw [f_X10_round_19] at h; cases h
  | succ n ih =>
    intro v1 v2 M w3 h
    rw [f_X10_round_19] at h
    refine kj_ild2 (pc := 19) C dX10_round_19 ?_
    refine kj_bipush (pc := 20) C (v := 60) dX10_round_20 cb_60 ?_
    refine kj_icmp_ge (pc := 22) C dX10_round_22 (tgt := 74) (by decide) (fun c1 => ?_) (fun c1 => ?_)
    · have h := of_pos c1 h
      refine kj_bipush (pc := 74) C (v := (-9)) dX10_round_74 cb_m9 ?_
      cases h
      exact kj_iret (pc := 76) C hr hR dX10_round_76
    · have h := of_neg c1 h
      refine kj_iconst (pc := 25) C (v := 1) dX10_round_25 ci_1 ?_
      refine kj_ist3 (pc := 26) C dX10_round_26 (Nat.le_of_ble_eq_true rfl) rfl ?_
      exact k_X10_round_27 C hr hR ih 100 _ _ _ _ h
def f_X10_round (v1 : Int32) (M : Mem) : Option (Int32 × Mem) := (f_X10_in v1.toInt64 0 1 M).bind (fun q1 => if q1 = 0 then some (((-2) : Int32), M) else (f_X10_singAll M).bind (fun q3 => f_X10_round_19 100 v1 0 q3))
set_option maxHeartbeats 4000000 in
set_option maxRecDepth 100000 in
theorem ct_X10_round {g : GT} {l : Launch} {v1 : Int32} {M : Mem} {t : Int32 × Mem} (h : f_X10_round v1 M = some t) : Ct g l 6 yX10_round cX10_round 4 (some .int) [.ref (ga g 27 0), .int v1] M (some (.int t.1)) t.2 := by
  refine ct_of (k := 2) (by decide) (Nat.le_of_ble_eq_true rfl) rfl (fun X C hl hr hR => ?_)
  subst hl
  have C : Cx g X cX10_round RX10 4 6 := C
  unfold f_X10_round at h
  refine kj_ild1 (pc := 0) C dX10_round_0 ?_
  refine kj_i2l (pc := 1) C dX10_round_1 ?_
  refine kj_lconst (pc := 2) C (v := 0) dX10_round_2 cl_0 ?_
  refine kj_lconst (pc := 3) C (v := 1) dX10_round_3 cl_1 ?_
  obtain ⟨q1, eq1, h⟩ := of_bind h
  refine kj_callS1 (pc := 4) C (ct_X10_in eq1) (Nat.le_of_ble_eq_true rfl) mi_X10_in ml_X10_59 rfl as3 (Nat.le_of_ble_eq_true rfl) dX10_round_4 ?_
  refine kj_if_ne (pc := 7) C dX10_round_7 (tgt := 13) (by decide) (fun c2 => ?_) (fun c2 => ?_)
  · have h := of_neg c2 h
    refine kj_ald0 (pc := 13) C dX10_round_13 ?_
    obtain ⟨q3, eq3, h⟩ := of_bind h
    refine kj_callV0 (pc := 14) C (ct_X10_singAll eq3) (Nat.le_of_ble_eq_true rfl) mi_X10_singAll ml_X10_161 rc_27 rfl rfl ar0 (Nat.le_of_ble_eq_true rfl) dX10_round_14 ?_
    refine kj_iconst (pc := 17) C (v := 0) dX10_round_17 ci_0 ?_
    refine kj_ist2 (pc := 18) C dX10_round_18 (Nat.le_of_ble_eq_true rfl) rfl ?_
    exact k_X10_round_19 C hr hR 100 _ _ _ _ h
  · have h := of_pos c2 h
    refine kj_bipush (pc := 10) C (v := (-2)) dX10_round_10 cb_m2 ?_
    cases h
    exact kj_iret (pc := 12) C hr hR dX10_round_12
