def LwR (X : XT) (b : Nat) : Prop := xQ X = lw_Z (xb X) #[Value.ref b] (xs X) ∧ xR X = room_1 ∧ xa X = #[Value.ref b] ∧ xk X ≤ 600000 ∧ xn X ≤ 7302250
section KL
variable {g : GT} {X : XT} {cc : ByteArray} {own : String} {nL d pc : Nat} {lv : List (Option Value)} {st : List Value} {M : Mem}
theorem kj_sld (C : Cx g X cc own nL d) {b L : Nat} {sx : Nat → Int32} (hX : va_X b L sx (xs X) (xs X).heap) (hbl : b < (xs X).heap.size) (hbA : ¬ gA g b) {x : Int32} (hin : ¬ (x < 0 ∨ L ≤ x.toNatClampNeg)) (hd : decode cc pc = .ok (.iaload, 1)) (kk : Kj g X nL (pc + 1) lv (.int (sx x.toNatClampNeg) :: st) M) : Kj g X nL pc lv (.int x :: .ref b :: st) M := fun H locs ls hP hS hl => va_sld C.1 C.2.1 hX hbl hbA hS hin hd (kk H locs ls hP hS hl)
theorem kj_slen (C : Cx g X cc own nL d) {b L : Nat} {sx : Nat → Int32} (hX : va_X b L sx (xs X) (xs X).heap) (hbl : b < (xs X).heap.size) (hbA : ¬ gA g b) (hd : decode cc pc = .ok (.arraylength, 1)) (kk : Kj g X nL (pc + 1) lv (.int (Int32.ofNat L) :: st) M) : Kj g X nL pc lv (.ref b :: st) M := fun H locs ls hP hS hl => va_slen C.1 C.2.1 hX hbl hbA hS hd (kk H locs ls hP hS hl)
theorem kj_lawret (C : Cx g X cL_law RL 4 d) {b : Nat} (hr : (xt X).sig.returnType = ret) (hR : LwR X b) (hge : ∀ q, gA g q → (xs X).heap.size ≤ q) (hd : decode cL_law pc = .ok (.ireturn, 1)) : Kj g X 4 pc lv [.int 1] M := fun H locs ls hP hS hl => by
  obtain ⟨q1, q2, q3, q4, q5⟩ := hR
  refine va_forget (fun l hl => hge _ (hS.2.2 l hl)) ?_
  refine W.widen q4 q5 ?_
  have hw := lw_ret (p := xp X) (l := xl X) (e := xe X) (s := xs X) (m := xm X) (below := xb X) (b := b) (H := H) (ls := ls) C.1 C.2.1 hr C.2.2.2.2.2.2.1 hd
  rw [q1, q2, q3]
  exact hw
end KL
theorem ts_out29 {x : Int32} (c0 : ¬ x = 0) (c1 : ¬ x = 1) (c2 : ¬ x = 2) (c3 : ¬ x = 3) (c4 : ¬ x = 4) (c5 : ¬ x = 5) (c6 : ¬ x = 6) (c7 : ¬ x = 7) (c8 : ¬ x = 8) (c9 : ¬ x = 9) (c10 : ¬ x = 10) (c11 : ¬ x = 11) (c12 : ¬ x = 12) (c13 : ¬ x = 13) (c14 : ¬ x = 14) (c15 : ¬ x = 15) (c16 : ¬ x = 16) (c17 : ¬ x = 17) (c18 : ¬ x = 18) (c19 : ¬ x = 19) (c20 : ¬ x = 20) (c21 : ¬ x = 21) (c22 : ¬ x = 22) (c23 : ¬ x = 23) (c24 : ¬ x = 24) (c25 : ¬ x = 25) (c26 : ¬ x = 26) (c27 : ¬ x = 27) (c28 : ¬ x = 28) (c29 : ¬ x = 29) : x.toInt < 0 ∨ 29 < x.toInt := by
  by_cases h : x.toInt < 0 ∨ 29 < x.toInt
  · exact h
  · exfalso
    have h1 : 0 ≤ x.toInt ∧ x.toInt ≤ 29 := by omega
    have h2 : x = Int32.ofInt x.toInt := (Int32.ofInt_toInt x).symm
    rcases (show x.toInt = 0 ∨ x.toInt = 1 ∨ x.toInt = 2 ∨ x.toInt = 3 ∨ x.toInt = 4 ∨ x.toInt = 5 ∨ x.toInt = 6 ∨ x.toInt = 7 ∨ x.toInt = 8 ∨ x.toInt = 9 ∨ x.toInt = 10 ∨ x.toInt = 11 ∨ x.toInt = 12 ∨ x.toInt = 13 ∨ x.toInt = 14 ∨ x.toInt = 15 ∨ x.toInt = 16 ∨ x.toInt = 17 ∨ x.toInt = 18 ∨ x.toInt = 19 ∨ x.toInt = 20 ∨ x.toInt = 21 ∨ x.toInt = 22 ∨ x.toInt = 23 ∨ x.toInt = 24 ∨ x.toInt = 25 ∨ x.toInt = 26 ∨ x.toInt = 27 ∨ x.toInt = 28 ∨ x.toInt = 29 by omega) with e | e | e | e | e | e | e | e | e | e | e | e | e | e | e | e | e | e | e | e | e | e | e | e | e | e | e | e | e | e
    · exact c0 (by rw [h2, e]; decide)
    · exact c1 (by rw [h2, e]; decide)
    · exact c2 (by rw [h2, e]; decide)
    · exact c3 (by rw [h2, e]; decide)
    · exact c4 (by rw [h2, e]; decide)
    · exact c5 (by rw [h2, e]; decide)
    · exact c6 (by rw [h2, e]; decide)
    · exact c7 (by rw [h2, e]; decide)
    · exact c8 (by rw [h2, e]; decide)
    · exact c9 (by rw [h2, e]; decide)
    · exact c10 (by rw [h2, e]; decide)
    · exact c11 (by rw [h2, e]; decide)
    · exact c12 (by rw [h2, e]; decide)
    · exact c13 (by rw [h2, e]; decide)
    · exact c14 (by rw [h2, e]; decide)
    · exact c15 (by rw [h2, e]; decide)
    · exact c16 (by rw [h2, e]; decide)
    · exact c17 (by rw [h2, e]; decide)
    · exact c18 (by rw [h2, e]; decide)
    · exact c19 (by rw [h2, e]; decide)
    · exact c20 (by rw [h2, e]; decide)
    · exact c21 (by rw [h2, e]; decide)
    · exact c22 (by rw [h2, e]; decide)
    · exact c23 (by rw [h2, e]; decide)
    · exact c24 (by rw [h2, e]; decide)
    · exact c25 (by rw [h2, e]; decide)
    · exact c26 (by rw [h2, e]; decide)
    · exact c27 (by rw [h2, e]; decide)
    · exact c28 (by rw [h2, e]; decide)
    · exact c29 (by rw [h2, e]; decide)
theorem cn_L_89 : Cond.constantLong RL 89 4294967295 ∈ gW := gw_mk (i := 1119) (by decide +kernel) rfl
theorem ml_L_13 : Cond.methodLink RL 13 yX9_write ∈ gW := gw_mk (i := 346) (by decide +kernel) rfl
theorem ml_L_17 : Cond.methodLink RL 17 yX10_write ∈ gW := gw_mk (i := 849) (by decide +kernel) rfl
theorem ml_L_18 : Cond.methodLink RL 18 yX9_wipe ∈ gW := gw_mk (i := 354) (by decide +kernel) rfl
theorem ml_L_22 : Cond.methodLink RL 22 yX10_wipe ∈ gW := gw_mk (i := 857) (by decide +kernel) rfl
theorem ml_L_23 : Cond.methodLink RL 23 yX9_fault ∈ gW := gw_mk (i := 358) (by decide +kernel) rfl
theorem ml_L_26 : Cond.methodLink RL 26 yX10_fault ∈ gW := gw_mk (i := 861) (by decide +kernel) rfl
theorem ml_L_27 : Cond.methodLink RL 27 yX9_choir ∈ gW := gw_mk (i := 375) (by decide +kernel) rfl
theorem ml_L_30 : Cond.methodLink RL 30 yX10_choir ∈ gW := gw_mk (i := 881) (by decide +kernel) rfl
theorem ml_L_31 : Cond.methodLink RL 31 yX9_singer ∈ gW := gw_mk (i := 405) (by decide +kernel) rfl
theorem ml_L_35 : Cond.methodLink RL 35 yX10_singer ∈ gW := gw_mk (i := 885) (by decide +kernel) rfl
theorem ml_L_36 : Cond.methodLink RL 36 yX9_seat ∈ gW := gw_mk (i := 433) (by decide +kernel) rfl
theorem ml_L_39 : Cond.methodLink RL 39 yX10_seat ∈ gW := gw_mk (i := 907) (by decide +kernel) rfl
theorem ml_L_40 : Cond.methodLink RL 40 yX9_bar ∈ gW := gw_mk (i := 443) (by decide +kernel) rfl
theorem ml_L_43 : Cond.methodLink RL 43 yX10_bar ∈ gW := gw_mk (i := 916) (by decide +kernel) rfl
theorem ml_L_44 : Cond.methodLink RL 44 yX9_gift ∈ gW := gw_mk (i := 487) (by decide +kernel) rfl
theorem ml_L_47 : Cond.methodLink RL 47 yX10_gift ∈ gW := gw_mk (i := 939) (by decide +kernel) rfl
theorem ml_L_48 : Cond.methodLink RL 48 yX9_change ∈ gW := gw_mk (i := 495) (by decide +kernel) rfl
theorem ml_L_51 : Cond.methodLink RL 51 yX10_change ∈ gW := gw_mk (i := 947) (by decide +kernel) rfl
theorem ml_L_52 : Cond.methodLink RL 52 yX9_pitch ∈ gW := gw_mk (i := 503) (by decide +kernel) rfl
theorem ml_L_55 : Cond.methodLink RL 55 yX10_pitch ∈ gW := gw_mk (i := 955) (by decide +kernel) rfl
theorem ml_L_56 : Cond.methodLink RL 56 yX9_hold ∈ gW := gw_mk (i := 508) (by decide +kernel) rfl
theorem ml_L_59 : Cond.methodLink RL 59 yX10_hold ∈ gW := gw_mk (i := 963) (by decide +kernel) rfl
theorem ml_L_60 : Cond.methodLink RL 60 yX9_undo ∈ gW := gw_mk (i := 516) (by decide +kernel) rfl
theorem ml_L_63 : Cond.methodLink RL 63 yX10_undo ∈ gW := gw_mk (i := 967) (by decide +kernel) rfl
theorem ml_L_64 : Cond.methodLink RL 64 yX9_sings ∈ gW := gw_mk (i := 524) (by decide +kernel) rfl
theorem ml_L_67 : Cond.methodLink RL 67 yX10_sings ∈ gW := gw_mk (i := 971) (by decide +kernel) rfl
theorem ml_L_68 : Cond.methodLink RL 68 yX9_notes ∈ gW := gw_mk (i := 534) (by decide +kernel) rfl
theorem ml_L_71 : Cond.methodLink RL 71 yX10_notes ∈ gW := gw_mk (i := 984) (by decide +kernel) rfl
theorem ml_L_72 : Cond.methodLink RL 72 yX9_round ∈ gW := gw_mk (i := 543) (by decide +kernel) rfl
theorem ml_L_75 : Cond.methodLink RL 75 yX10_round ∈ gW := gw_mk (i := 988) (by decide +kernel) rfl
theorem ml_L_76 : Cond.methodLink RL 76 yX9_unison ∈ gW := gw_mk (i := 555) (by decide +kernel) rfl
theorem ml_L_79 : Cond.methodLink RL 79 yX10_unison ∈ gW := gw_mk (i := 996) (by decide +kernel) rfl
theorem ml_L_80 : Cond.methodLink RL 80 yX9_gets ∈ gW := gw_mk (i := 563) (by decide +kernel) rfl
theorem ml_L_84 : Cond.methodLink RL 84 yX10_gets ∈ gW := gw_mk (i := 1000) (by decide +kernel) rfl
theorem ml_L_85 : Cond.methodLink RL 85 yX9_best ∈ gW := gw_mk (i := 573) (by decide +kernel) rfl
theorem ml_L_88 : Cond.methodLink RL 88 yX10_best ∈ gW := gw_mk (i := 1012) (by decide +kernel) rfl
theorem ml_L_91 : Cond.methodLink RL 91 yX9_judge ∈ gW := gw_mk (i := 583) (by decide +kernel) rfl
theorem ml_L_95 : Cond.methodLink RL 95 yX10_judge ∈ gW := gw_mk (i := 1020) (by decide +kernel) rfl
theorem ml_L_96 : Cond.methodLink RL 96 yX9_hear ∈ gW := gw_mk (i := 608) (by decide +kernel) rfl
theorem ml_L_100 : Cond.methodLink RL 100 yX10_hear ∈ gW := gw_mk (i := 1033) (by decide +kernel) rfl
theorem ml_L_101 : Cond.methodLink RL 101 yX9_unhear ∈ gW := gw_mk (i := 616) (by decide +kernel) rfl
theorem ml_L_104 : Cond.methodLink RL 104 yX10_unhear ∈ gW := gw_mk (i := 1037) (by decide +kernel) rfl
theorem ml_L_105 : Cond.methodLink RL 105 yX9_had ∈ gW := gw_mk (i := 620) (by decide +kernel) rfl
theorem ml_L_108 : Cond.methodLink RL 108 yX10_had ∈ gW := gw_mk (i := 1041) (by decide +kernel) rfl
theorem ml_L_109 : Cond.methodLink RL 109 yX9_share ∈ gW := gw_mk (i := 637) (by decide +kernel) rfl
theorem ml_L_113 : Cond.methodLink RL 113 yX10_share ∈ gW := gw_mk (i := 1049) (by decide +kernel) rfl
theorem ml_L_114 : Cond.methodLink RL 114 yX9_rests ∈ gW := gw_mk (i := 672) (by decide +kernel) rfl
theorem ml_L_117 : Cond.methodLink RL 117 yX10_rests ∈ gW := gw_mk (i := 1063) (by decide +kernel) rfl
theorem ml_L_118 : Cond.methodLink RL 118 yX9_hoarse ∈ gW := gw_mk (i := 693) (by decide +kernel) rfl
theorem ml_L_122 : Cond.methodLink RL 122 yX10_hoarse ∈ gW := gw_mk (i := 1075) (by decide +kernel) rfl
theorem ml_L_123 : Cond.methodLink RL 123 yX9_seed ∈ gW := gw_mk (i := 704) (by decide +kernel) rfl
theorem ml_L_127 : Cond.methodLink RL 127 yX10_seed ∈ gW := gw_mk (i := 1083) (by decide +kernel) rfl
theorem ml_L_128 : Cond.methodLink RL 128 yX9_years ∈ gW := gw_mk (i := 708) (by decide +kernel) rfl
theorem ml_L_131 : Cond.methodLink RL 131 yX10_years ∈ gW := gw_mk (i := 1087) (by decide +kernel) rfl
theorem ml_L_132 : Cond.methodLink RL 132 yX9_keep ∈ gW := gw_mk (i := 731) (by decide +kernel) rfl
theorem ml_L_135 : Cond.methodLink RL 135 yX10_keep ∈ gW := gw_mk (i := 1095) (by decide +kernel) rfl
theorem ml_L_136 : Cond.methodLink RL 136 yX9_again ∈ gW := gw_mk (i := 741) (by decide +kernel) rfl
theorem ml_L_139 : Cond.methodLink RL 139 yX10_again ∈ gW := gw_mk (i := 1099) (by decide +kernel) rfl
theorem ml_L_140 : Cond.methodLink RL 140 yX9_count ∈ gW := gw_mk (i := 749) (by decide +kernel) rfl
theorem ml_L_143 : Cond.methodLink RL 143 yX10_count ∈ gW := gw_mk (i := 1103) (by decide +kernel) rfl
theorem cb_31 : (Int8.ofInt (31)).toInt32 = 31 := by decide
def f_L_law_1031 (sx : Nat → Int32) (L : Nat) (k18 : Int32 → Mem → Option (Int32 × Mem)) (v3 : Int32) (M : Mem) : Option (Int32 × Mem) := lt_ (v3 + 5) (fun x1 => k18 x1 M)
set_option maxHeartbeats 4000000 in
set_option maxRecDepth 100000 in
theorem k_L_law_1031 {g : GT} {X : XT} {sx : Nat → Int32} {L b : Nat} {k18 : Int32 → Mem → Option (Int32 × Mem)} {t : Int32 × Mem} (C : Cx g X cL_law RL 4 9) (hr : (xt X).sig.returnType = ret) (hR : LwR X b) (hX : va_X b L sx (xs X) (xs X).heap) (hbl : b < (xs X).heap.size) (hbA : ¬ gA g b) (hge : ∀ q, gA g q → (xs X).heap.size ≤ q) (ht : t.1 = 1) (hk18 : ∀ (v3 : Int32) (M : Mem), k18 v3 M = some t → Kj g X 4 18 [some (.ref b), some (.ref (ga g 20 0)), some (.ref (ga g 27 0)), some (.int v3)] [] M) : ∀ (v3 : Int32) (M : Mem), f_L_law_1031 sx L k18 v3 M = some t → Kj g X 4 1031 [some (.ref b), some (.ref (ga g 20 0)), some (.ref (ga g 27 0)), some (.int v3)] [] M := by
  intro v3 M h
  unfold f_L_law_1031 at h
  obtain ⟨x1, ex1, h⟩ := of_lt h
  refine kj_iinc3 (pc := 1031) C (v := x1) dL_law_1031 (Nat.le_of_ble_eq_true rfl) rfl (by rw [ex1, ci_5]) ?_
  refine kj_goto (pc := 1034) C dL_law_1034 (tgt := 18) (by decide) ?_
  exact hk18 _ _ h
def f_L_law_877 (sx : Nat → Int32) (L : Nat) (k18 : Int32 → Mem → Option (Int32 × Mem)) (v3 : Int32) (s0 : Int32) (s2 : Int32) (s3 : Int32) (s4 : Int32) (M : Mem) : Option (Int32 × Mem) := (f_X10_hoarse s2 s3 s4 M).bind (fun q1 => if s0 = q1.1 then f_L_law_1031 sx L k18 v3 q1.2 else some ((0 : Int32), q1.2))
set_option maxHeartbeats 4000000 in
set_option maxRecDepth 100000 in
theorem k_L_law_877 {g : GT} {X : XT} {sx : Nat → Int32} {L b : Nat} {k18 : Int32 → Mem → Option (Int32 × Mem)} {t : Int32 × Mem} (C : Cx g X cL_law RL 4 9) (hr : (xt X).sig.returnType = ret) (hR : LwR X b) (hX : va_X b L sx (xs X) (xs X).heap) (hbl : b < (xs X).heap.size) (hbA : ¬ gA g b) (hge : ∀ q, gA g q → (xs X).heap.size ≤ q) (ht : t.1 = 1) (hk18 : ∀ (v3 : Int32) (M : Mem), k18 v3 M = some t → Kj g X 4 18 [some (.ref b), some (.ref (ga g 20 0)), some (.ref (ga g 27 0)), some (.int v3)] [] M) : ∀ (v3 : Int32) (s0 : Int32) (s2 : Int32) (s3 : Int32) (s4 : Int32) (M : Mem), f_L_law_877 sx L k18 v3 s0 s2 s3 s4 M = some t → Kj g X 4 877 [some (.ref b), some (.ref (ga g 20 0)), some (.ref (ga g 27 0)), some (.int v3)] [.int s4, .int s3, .int s2, .ref (ga g 27 0), .int s0] M := by
  intro v3 s0 s2 s3 s4 M h
  unfold f_L_law_877 at h
  obtain ⟨q1, eq1, h⟩ := of_bind h
  refine kj_callV1 (pc := 877) C (ct_X10_hoarse eq1) (Nat.le_of_ble_eq_true rfl) mi_X10_hoarse ml_L_122 rc_27 rfl rfl ar3 (Nat.le_of_ble_eq_true rfl) dL_law_877 ?_
  refine kj_icmp_eq (pc := 880) C dL_law_880 (tgt := 1031) (by decide) (fun c2 => ?_) (fun c2 => ?_)
  · have h := of_pos c2 h
    exact k_L_law_1031 C hr hR hX hbl hbA hge ht hk18 _ _ h
  · have h := of_neg c2 h
    refine kj_iconst (pc := 883) C (v := 0) dL_law_883 ci_0 ?_
    cases h
    exact absurd (show (0 : Int32) = 1 from ht) (by decide)
def f_L_law_850 (sx : Nat → Int32) (L : Nat) (k18 : Int32 → Mem → Option (Int32 × Mem)) (v3 : Int32) (s1 : Int32) (s2 : Int32) (s3 : Int32) (M : Mem) : Option (Int32 × Mem) := (f_X9_hoarse s1 s2 s3 M).bind (fun q1 => lt_ (v3 + (1 : Int32)) (fun x2 => if ¬ (x2 < 0 ∨ L ≤ x2.toNatClampNeg) then lt_ (v3 + (2 : Int32)) (fun x4 => if ¬ (x4 < 0 ∨ L ≤ x4.toNatClampNeg) then lt_ (v3 + (3 : Int32)) (fun x6 => if ¬ (x6 < 0 ∨ L ≤ x6.toNatClampNeg) then if (sx x6.toNatClampNeg) = 0 then f_L_law_877 sx L k18 v3 q1.1 (sx x2.toNatClampNeg) (sx x4.toNatClampNeg) 0 q1.2 else f_L_law_877 sx L k18 v3 q1.1 (sx x2.toNatClampNeg) (sx x4.toNatClampNeg) 1 q1.2 else none) else none) else none))
set_option maxHeartbeats 4000000 in
set_option maxRecDepth 100000 in
theorem k_L_law_850 {g : GT} {X : XT} {sx : Nat → Int32} {L b : Nat} {k18 : Int32 → Mem → Option (Int32 × Mem)} {t : Int32 × Mem} (C : Cx g X cL_law RL 4 9) (hr : (xt X).sig.returnType = ret) (hR : LwR X b) (hX : va_X b L sx (xs X) (xs X).heap) (hbl : b < (xs X).heap.size) (hbA : ¬ gA g b) (hge : ∀ q, gA g q → (xs X).heap.size ≤ q) (ht : t.1 = 1) (hk18 : ∀ (v3 : Int32) (M : Mem), k18 v3 M = some t → Kj g X 4 18 [some (.ref b), some (.ref (ga g 20 0)), some (.ref (ga g 27 0)), some (.int v3)] [] M) : ∀ (v3 : Int32) (s1 : Int32) (s2 : Int32) (s3 : Int32) (M : Mem), f_L_law_850 sx L k18 v3 s1 s2 s3 M = some t → Kj g X 4 850 [some (.ref b), some (.ref (ga g 20 0)), some (.ref (ga g 27 0)), some (.int v3)] [.int s3, .int s2, .int s1, .ref (ga g 20 0)] M := by
  intro v3 s1 s2 s3 M h
  unfold f_L_law_850 at h
  obtain ⟨q1, eq1, h⟩ := of_bind h
  refine kj_callV1 (pc := 850) C (ct_X9_hoarse eq1) (Nat.le_of_ble_eq_true rfl) mi_X9_hoarse ml_L_118 rc_20 rfl rfl ar3 (Nat.le_of_ble_eq_true rfl) dL_law_850 ?_
  refine kj_ald2 (pc := 853) C dL_law_853 ?_
  refine kj_ald0 (pc := 854) C dL_law_854 ?_
  refine kj_ild3 (pc := 855) C dL_law_855 ?_
  refine kj_iconst (pc := 856) C (v := 1) dL_law_856 ci_1 ?_
  refine kj_iadd (pc := 857) C dL_law_857 ?_
  obtain ⟨x2, ex2, h⟩ := of_lt h
  refine kj_ni ex2 ?_
  obtain ⟨c3, h⟩ := of_gd h
  refine kj_sld (pc := 858) C hX hbl hbA c3 dL_law_858 ?_
  refine kj_ald0 (pc := 859) C dL_law_859 ?_
  refine kj_ild3 (pc := 860) C dL_law_860 ?_
  refine kj_iconst (pc := 861) C (v := 2) dL_law_861 ci_2 ?_
  refine kj_iadd (pc := 862) C dL_law_862 ?_
  obtain ⟨x4, ex4, h⟩ := of_lt h
  refine kj_ni ex4 ?_
  obtain ⟨c5, h⟩ := of_gd h
  refine kj_sld (pc := 863) C hX hbl hbA c5 dL_law_863 ?_
  refine kj_ald0 (pc := 864) C dL_law_864 ?_
  refine kj_ild3 (pc := 865) C dL_law_865 ?_
  refine kj_iconst (pc := 866) C (v := 3) dL_law_866 ci_3 ?_
  refine kj_iadd (pc := 867) C dL_law_867 ?_
  obtain ⟨x6, ex6, h⟩ := of_lt h
  refine kj_ni ex6 ?_
  obtain ⟨c7, h⟩ := of_gd h
  refine kj_sld (pc := 868) C hX hbl hbA c7 dL_law_868 ?_
  refine kj_if_eq (pc := 869) C dL_law_869 (tgt := 876) (by decide) (fun c8 => ?_) (fun c8 => ?_)
  · have h := of_pos c8 h
    refine kj_iconst (pc := 876) C (v := 0) dL_law_876 ci_0 ?_
    exact k_L_law_877 C hr hR hX hbl hbA hge ht hk18 _ _ _ _ _ _ h
  · have h := of_neg c8 h
    refine kj_iconst (pc := 872) C (v := 1) dL_law_872 ci_1 ?_
    refine kj_goto (pc := 873) C dL_law_873 (tgt := 877) (by decide) ?_
    exact k_L_law_877 C hr hR hX hbl hbA hge ht hk18 _ _ _ _ _ _ h
def f_L_law_775 (sx : Nat → Int32) (L : Nat) (k18 : Int32 → Mem → Option (Int32 × Mem)) (v3 : Int32) (s0 : Int32) (s2 : Int32) (s3 : Int32) (M : Mem) : Option (Int32 × Mem) := (f_X10_share s2 s3 M).bind (fun q1 => if s0 = q1.1 then f_L_law_1031 sx L k18 v3 q1.2 else some ((0 : Int32), q1.2))
set_option maxHeartbeats 4000000 in
set_option maxRecDepth 100000 in
theorem k_L_law_775 {g : GT} {X : XT} {sx : Nat → Int32} {L b : Nat} {k18 : Int32 → Mem → Option (Int32 × Mem)} {t : Int32 × Mem} (C : Cx g X cL_law RL 4 9) (hr : (xt X).sig.returnType = ret) (hR : LwR X b) (hX : va_X b L sx (xs X) (xs X).heap) (hbl : b < (xs X).heap.size) (hbA : ¬ gA g b) (hge : ∀ q, gA g q → (xs X).heap.size ≤ q) (ht : t.1 = 1) (hk18 : ∀ (v3 : Int32) (M : Mem), k18 v3 M = some t → Kj g X 4 18 [some (.ref b), some (.ref (ga g 20 0)), some (.ref (ga g 27 0)), some (.int v3)] [] M) : ∀ (v3 : Int32) (s0 : Int32) (s2 : Int32) (s3 : Int32) (M : Mem), f_L_law_775 sx L k18 v3 s0 s2 s3 M = some t → Kj g X 4 775 [some (.ref b), some (.ref (ga g 20 0)), some (.ref (ga g 27 0)), some (.int v3)] [.int s3, .int s2, .ref (ga g 27 0), .int s0] M := by
  intro v3 s0 s2 s3 M h
  unfold f_L_law_775 at h
  obtain ⟨q1, eq1, h⟩ := of_bind h
  refine kj_callV1 (pc := 775) C (ct_X10_share eq1) (Nat.le_of_ble_eq_true rfl) mi_X10_share ml_L_113 rc_27 rfl rfl ar2 (Nat.le_of_ble_eq_true rfl) dL_law_775 ?_
  refine kj_icmp_eq (pc := 778) C dL_law_778 (tgt := 1031) (by decide) (fun c2 => ?_) (fun c2 => ?_)
  · have h := of_pos c2 h
    exact k_L_law_1031 C hr hR hX hbl hbA hge ht hk18 _ _ h
  · have h := of_neg c2 h
    refine kj_iconst (pc := 781) C (v := 0) dL_law_781 ci_0 ?_
    cases h
    exact absurd (show (0 : Int32) = 1 from ht) (by decide)
def f_L_law_753 (sx : Nat → Int32) (L : Nat) (k18 : Int32 → Mem → Option (Int32 × Mem)) (v3 : Int32) (s1 : Int32) (s2 : Int32) (M : Mem) : Option (Int32 × Mem) := (f_X9_share s1 s2 M).bind (fun q1 => lt_ (v3 + (1 : Int32)) (fun x2 => if ¬ (x2 < 0 ∨ L ≤ x2.toNatClampNeg) then lt_ (v3 + (2 : Int32)) (fun x4 => if ¬ (x4 < 0 ∨ L ≤ x4.toNatClampNeg) then if (sx x4.toNatClampNeg) = 0 then f_L_law_775 sx L k18 v3 q1.1 (sx x2.toNatClampNeg) 0 q1.2 else f_L_law_775 sx L k18 v3 q1.1 (sx x2.toNatClampNeg) 1 q1.2 else none) else none))
set_option maxHeartbeats 4000000 in
set_option maxRecDepth 100000 in
theorem k_L_law_753 {g : GT} {X : XT} {sx : Nat → Int32} {L b : Nat} {k18 : Int32 → Mem → Option (Int32 × Mem)} {t : Int32 × Mem} (C : Cx g X cL_law RL 4 9) (hr : (xt X).sig.returnType = ret) (hR : LwR X b) (hX : va_X b L sx (xs X) (xs X).heap) (hbl : b < (xs X).heap.size) (hbA : ¬ gA g b) (hge : ∀ q, gA g q → (xs X).heap.size ≤ q) (ht : t.1 = 1) (hk18 : ∀ (v3 : Int32) (M : Mem), k18 v3 M = some t → Kj g X 4 18 [some (.ref b), some (.ref (ga g 20 0)), some (.ref (ga g 27 0)), some (.int v3)] [] M) : ∀ (v3 : Int32) (s1 : Int32) (s2 : Int32) (M : Mem), f_L_law_753 sx L k18 v3 s1 s2 M = some t → Kj g X 4 753 [some (.ref b), some (.ref (ga g 20 0)), some (.ref (ga g 27 0)), some (.int v3)] [.int s2, .int s1, .ref (ga g 20 0)] M := by
  intro v3 s1 s2 M h
  unfold f_L_law_753 at h
  obtain ⟨q1, eq1, h⟩ := of_bind h
  refine kj_callV1 (pc := 753) C (ct_X9_share eq1) (Nat.le_of_ble_eq_true rfl) mi_X9_share ml_L_109 rc_20 rfl rfl ar2 (Nat.le_of_ble_eq_true rfl) dL_law_753 ?_
  refine kj_ald2 (pc := 756) C dL_law_756 ?_
  refine kj_ald0 (pc := 757) C dL_law_757 ?_
  refine kj_ild3 (pc := 758) C dL_law_758 ?_
  refine kj_iconst (pc := 759) C (v := 1) dL_law_759 ci_1 ?_
  refine kj_iadd (pc := 760) C dL_law_760 ?_
  obtain ⟨x2, ex2, h⟩ := of_lt h
  refine kj_ni ex2 ?_
  obtain ⟨c3, h⟩ := of_gd h
  refine kj_sld (pc := 761) C hX hbl hbA c3 dL_law_761 ?_
  refine kj_ald0 (pc := 762) C dL_law_762 ?_
  refine kj_ild3 (pc := 763) C dL_law_763 ?_
  refine kj_iconst (pc := 764) C (v := 2) dL_law_764 ci_2 ?_
  refine kj_iadd (pc := 765) C dL_law_765 ?_
  obtain ⟨x4, ex4, h⟩ := of_lt h
  refine kj_ni ex4 ?_
  obtain ⟨c5, h⟩ := of_gd h
  refine kj_sld (pc := 766) C hX hbl hbA c5 dL_law_766 ?_
  refine kj_if_eq (pc := 767) C dL_law_767 (tgt := 774) (by decide) (fun c6 => ?_) (fun c6 => ?_)
  · have h := of_pos c6 h
    refine kj_iconst (pc := 774) C (v := 0) dL_law_774 ci_0 ?_
    exact k_L_law_775 C hr hR hX hbl hbA hge ht hk18 _ _ _ _ _ h
  · have h := of_neg c6 h
    refine kj_iconst (pc := 770) C (v := 1) dL_law_770 ci_1 ?_
    refine kj_goto (pc := 771) C dL_law_771 (tgt := 775) (by decide) ?_
    exact k_L_law_775 C hr hR hX hbl hbA hge ht hk18 _ _ _ _ _ h
def f_L_law_18 (sx : Nat → Int32) (L : Nat) (n : Nat) (v3 : Int32) (M : Mem) : Option (Int32 × Mem) := match n with
  | 0 => none
  | n + 1 => if ((Int32.ofNat L) - (5 : Int32)) < v3 then some ((1 : Int32), M) else if ¬ (v3 < 0 ∨ L ≤ v3.toNatClampNeg) then lt_ ((sx v3.toNatClampNeg) &&& (31 : Int32)) (fun x3 => if x3 = 0 then lt_ (v3 + (1 : Int32)) (fun x4 => if ¬ (x4 < 0 ∨ L ≤ x4.toNatClampNeg) then (f_X9_write (sx x4.toNatClampNeg) M).bind (fun q6 => lt_ (v3 + (1 : Int32)) (fun x7 => if ¬ (x7 < 0 ∨ L ≤ x7.toNatClampNeg) then (f_X10_write (sx x7.toNatClampNeg) q6.2).bind (fun q9 => if q6.1 = q9.1 then f_L_law_1031 sx L (f_L_law_18 sx L n) v3 q9.2 else some ((0 : Int32), q9.2)) else none)) else none) else if x3 = 1 then (f_X9_wipe M).bind (fun q12 => (f_X10_wipe q12.2).bind (fun q13 => if q12.1 = q13.1 then f_L_law_1031 sx L (f_L_law_18 sx L n) v3 q13.2 else some ((0 : Int32), q13.2))) else if x3 = 2 then (f_X9_fault M).bind (fun q16 => (f_X10_fault M).bind (fun q17 => if q16 = q17.1 then f_L_law_1031 sx L (f_L_law_18 sx L n) v3 q17.2 else some ((0 : Int32), q17.2))) else if x3 = 3 then (f_X9_choir M).bind (fun q20 => (f_X10_choir q20.2).bind (fun q21 => if q20.1 = q21.1 then f_L_law_1031 sx L (f_L_law_18 sx L n) v3 q21.2 else some ((0 : Int32), q21.2))) else if x3 = 4 then lt_ (v3 + (1 : Int32)) (fun x24 => if ¬ (x24 < 0 ∨ L ≤ x24.toNatClampNeg) then lt_ (v3 + (2 : Int32)) (fun x26 => if ¬ (x26 < 0 ∨ L ≤ x26.toNatClampNeg) then (f_X9_singer (sx x24.toNatClampNeg) (sx x26.toNatClampNeg) M).bind (fun q28 => lt_ (v3 + (1 : Int32)) (fun x29 => if ¬ (x29 < 0 ∨ L ≤ x29.toNatClampNeg) then lt_ (v3 + (2 : Int32)) (fun x31 => if ¬ (x31 < 0 ∨ L ≤ x31.toNatClampNeg) then (f_X10_singer (sx x29.toNatClampNeg) (sx x31.toNatClampNeg) M).bind (fun q33 => if q28 = q33 then f_L_law_1031 sx L (f_L_law_18 sx L n) v3 M else some ((0 : Int32), M)) else none) else none)) else none) else none) else if x3 = 5 then lt_ (v3 + (1 : Int32)) (fun x36 => if ¬ (x36 < 0 ∨ L ≤ x36.toNatClampNeg) then (f_X9_seat (sx x36.toNatClampNeg) M).bind (fun q38 => lt_ (v3 + (1 : Int32)) (fun x39 => if ¬ (x39 < 0 ∨ L ≤ x39.toNatClampNeg) then (f_X10_seat (sx x39.toNatClampNeg) M).bind (fun q41 => if q38 = q41 then f_L_law_1031 sx L (f_L_law_18 sx L n) v3 M else some ((0 : Int32), M)) else none)) else none) else if x3 = 6 then (f_X9_bar M).bind (fun q44 => (f_X10_bar q44.2).bind (fun q45 => if q44.1 = q45.1 then f_L_law_1031 sx L (f_L_law_18 sx L n) v3 q45.2 else some ((0 : Int32), q45.2))) else if x3 = 7 then lt_ (v3 + (1 : Int32)) (fun x48 => if ¬ (x48 < 0 ∨ L ≤ x48.toNatClampNeg) then lt_ (v3 + (2 : Int32)) (fun x50 => if ¬ (x50 < 0 ∨ L ≤ x50.toNatClampNeg) then (f_X9_gift (sx x48.toNatClampNeg) (sx x50.toNatClampNeg) M).bind (fun q52 => lt_ (v3 + (1 : Int32)) (fun x53 => if ¬ (x53 < 0 ∨ L ≤ x53.toNatClampNeg) then lt_ (v3 + (2 : Int32)) (fun x55 => if ¬ (x55 < 0 ∨ L ≤ x55.toNatClampNeg) then (f_X10_gift (sx x53.toNatClampNeg) (sx x55.toNatClampNeg) q52.2).bind (fun q57 => if q52.1 = q57.1 then f_L_law_1031 sx L (f_L_law_18 sx L n) v3 q57.2 else some ((0 : Int32), q57.2)) else none) else none)) else none) else none) else if x3 = 8 then lt_ (v3 + (1 : Int32)) (fun x60 => if ¬ (x60 < 0 ∨ L ≤ x60.toNatClampNeg) then lt_ (v3 + (2 : Int32)) (fun x62 => if ¬ (x62 < 0 ∨ L ≤ x62.toNatClampNeg) then (f_X9_change (sx x60.toNatClampNeg) (sx x62.toNatClampNeg) M).bind (fun q64 => lt_ (v3 + (1 : Int32)) (fun x65 => if ¬ (x65 < 0 ∨ L ≤ x65.toNatClampNeg) then lt_ (v3 + (2 : Int32)) (fun x67 => if ¬ (x67 < 0 ∨ L ≤ x67.toNatClampNeg) then (f_X10_change (sx x65.toNatClampNeg) (sx x67.toNatClampNeg) q64.2).bind (fun q69 => if q64.1 = q69.1 then f_L_law_1031 sx L (f_L_law_18 sx L n) v3 q69.2 else some ((0 : Int32), q69.2)) else none) else none)) else none) else none) else if x3 = 9 then (f_X9_pitch M).bind (fun q72 => (f_X10_pitch q72.2).bind (fun q73 => if q72.1 = q73.1 then f_L_law_1031 sx L (f_L_law_18 sx L n) v3 q73.2 else some ((0 : Int32), q73.2))) else if x3 = 10 then lt_ (v3 + (1 : Int32)) (fun x76 => if ¬ (x76 < 0 ∨ L ≤ x76.toNatClampNeg) then (f_X9_hold (sx x76.toNatClampNeg) M).bind (fun q78 => lt_ (v3 + (1 : Int32)) (fun x79 => if ¬ (x79 < 0 ∨ L ≤ x79.toNatClampNeg) then (f_X10_hold (sx x79.toNatClampNeg) q78.2).bind (fun q81 => if q78.1 = q81.1 then f_L_law_1031 sx L (f_L_law_18 sx L n) v3 q81.2 else some ((0 : Int32), q81.2)) else none)) else none) else if x3 = 11 then (f_X9_undo M).bind (fun q84 => (f_X10_undo q84.2).bind (fun q85 => if q84.1 = q85.1 then f_L_law_1031 sx L (f_L_law_18 sx L n) v3 q85.2 else some ((0 : Int32), q85.2))) else if x3 = 12 then lt_ (v3 + (1 : Int32)) (fun x88 => if ¬ (x88 < 0 ∨ L ≤ x88.toNatClampNeg) then lt_ (v3 + (2 : Int32)) (fun x90 => if ¬ (x90 < 0 ∨ L ≤ x90.toNatClampNeg) then (f_X9_sings (sx x88.toNatClampNeg) (sx x90.toNatClampNeg) M).bind (fun q92 => lt_ (v3 + (1 : Int32)) (fun x93 => if ¬ (x93 < 0 ∨ L ≤ x93.toNatClampNeg) then lt_ (v3 + (2 : Int32)) (fun x95 => if ¬ (x95 < 0 ∨ L ≤ x95.toNatClampNeg) then (f_X10_sings (sx x93.toNatClampNeg) (sx x95.toNatClampNeg) q92.2).bind (fun q97 => if q92.1 = q97.1 then f_L_law_1031 sx L (f_L_law_18 sx L n) v3 q97.2 else some ((0 : Int32), q97.2)) else none) else none)) else none) else none) else if x3 = 13 then lt_ (v3 + (1 : Int32)) (fun x100 => if ¬ (x100 < 0 ∨ L ≤ x100.toNatClampNeg) then (f_X9_notes (sx x100.toNatClampNeg) M).bind (fun q102 => lt_ (v3 + (1 : Int32)) (fun x103 => if ¬ (x103 < 0 ∨ L ≤ x103.toNatClampNeg) then (f_X10_notes (sx x103.toNatClampNeg) q102.2).bind (fun q105 => if q102.1 = q105.1 then f_L_law_1031 sx L (f_L_law_18 sx L n) v3 q105.2 else some ((0 : Int32), q105.2)) else none)) else none) else if x3 = 14 then lt_ (v3 + (1 : Int32)) (fun x108 => if ¬ (x108 < 0 ∨ L ≤ x108.toNatClampNeg) then (f_X9_round (sx x108.toNatClampNeg) M).bind (fun q110 => lt_ (v3 + (1 : Int32)) (fun x111 => if ¬ (x111 < 0 ∨ L ≤ x111.toNatClampNeg) then (f_X10_round (sx x111.toNatClampNeg) q110.2).bind (fun q113 => if q110.1 = q113.1 then f_L_law_1031 sx L (f_L_law_18 sx L n) v3 q113.2 else some ((0 : Int32), q113.2)) else none)) else none) else if x3 = 15 then (f_X9_unison M).bind (fun q116 => (f_X10_unison q116.2).bind (fun q117 => if q116.1 = q117.1 then f_L_law_1031 sx L (f_L_law_18 sx L n) v3 q117.2 else some ((0 : Int32), q117.2))) else if x3 = 16 then lt_ (v3 + (1 : Int32)) (fun x120 => if ¬ (x120 < 0 ∨ L ≤ x120.toNatClampNeg) then lt_ (v3 + (2 : Int32)) (fun x122 => if ¬ (x122 < 0 ∨ L ≤ x122.toNatClampNeg) then lt_ (v3 + (3 : Int32)) (fun x124 => if ¬ (x124 < 0 ∨ L ≤ x124.toNatClampNeg) then lt_ (v3 + (4 : Int32)) (fun x126 => if ¬ (x126 < 0 ∨ L ≤ x126.toNatClampNeg) then (f_X9_gets (sx x120.toNatClampNeg) (sx x122.toNatClampNeg) (sx x124.toNatClampNeg) (sx x126.toNatClampNeg) M).bind (fun q128 => lt_ (v3 + (1 : Int32)) (fun x129 => if ¬ (x129 < 0 ∨ L ≤ x129.toNatClampNeg) then lt_ (v3 + (2 : Int32)) (fun x131 => if ¬ (x131 < 0 ∨ L ≤ x131.toNatClampNeg) then lt_ (v3 + (3 : Int32)) (fun x133 => if ¬ (x133 < 0 ∨ L ≤ x133.toNatClampNeg) then lt_ (v3 + (4 : Int32)) (fun x135 => if ¬ (x135 < 0 ∨ L ≤ x135.toNatClampNeg) then (f_X10_gets (sx x129.toNatClampNeg) (sx x131.toNatClampNeg) (sx x133.toNatClampNeg) (sx x135.toNatClampNeg) q128.2).bind (fun q137 => if q128.1 = q137.1 then f_L_law_1031 sx L (f_L_law_18 sx L n) v3 q137.2 else some ((0 : Int32), q137.2)) else none) else none) else none) else none)) else none) else none) else none) else none) else if x3 = 17 then lt_ (v3 + (1 : Int32)) (fun x140 => if ¬ (x140 < 0 ∨ L ≤ x140.toNatClampNeg) then lt_ (v3 + (2 : Int32)) (fun x142 => if ¬ (x142 < 0 ∨ L ≤ x142.toNatClampNeg) then (f_X9_best (sx x140.toNatClampNeg) (sx x142.toNatClampNeg) M).bind (fun q144 => lt_ (v3 + (1 : Int32)) (fun x145 => if ¬ (x145 < 0 ∨ L ≤ x145.toNatClampNeg) then lt_ (v3 + (2 : Int32)) (fun x147 => if ¬ (x147 < 0 ∨ L ≤ x147.toNatClampNeg) then (f_X10_best (sx x145.toNatClampNeg) (sx x147.toNatClampNeg) q144.2).bind (fun q149 => if q144.1 = q149.1 then f_L_law_1031 sx L (f_L_law_18 sx L n) v3 q149.2 else some ((0 : Int32), q149.2)) else none) else none)) else none) else none) else if x3 = 18 then lt_ (v3 + (1 : Int32)) (fun x152 => if ¬ (x152 < 0 ∨ L ≤ x152.toNatClampNeg) then lt_ (v3 + (2 : Int32)) (fun x154 => if ¬ (x154 < 0 ∨ L ≤ x154.toNatClampNeg) then lt_ (v3 + (3 : Int32)) (fun x156 => if ¬ (x156 < 0 ∨ L ≤ x156.toNatClampNeg) then (f_X9_judge (sx x152.toNatClampNeg) ((((sx x154.toNatClampNeg).toInt64) <<< ((32 : Int32).toInt64 &&& 63)) ||| (((sx x156.toNatClampNeg).toInt64) &&& (4294967295 : Int64))) M).bind (fun q158 => lt_ (v3 + (1 : Int32)) (fun x159 => if ¬ (x159 < 0 ∨ L ≤ x159.toNatClampNeg) then lt_ (v3 + (2 : Int32)) (fun x161 => if ¬ (x161 < 0 ∨ L ≤ x161.toNatClampNeg) then lt_ (v3 + (3 : Int32)) (fun x163 => if ¬ (x163 < 0 ∨ L ≤ x163.toNatClampNeg) then (f_X10_judge (sx x159.toNatClampNeg) ((((sx x161.toNatClampNeg).toInt64) <<< ((32 : Int32).toInt64 &&& 63)) ||| (((sx x163.toNatClampNeg).toInt64) &&& (4294967295 : Int64))) q158.2).bind (fun q165 => if q158.1 = q165.1 then f_L_law_1031 sx L (f_L_law_18 sx L n) v3 q165.2 else some ((0 : Int32), q165.2)) else none) else none) else none)) else none) else none) else none) else if x3 = 19 then lt_ (v3 + (1 : Int32)) (fun x168 => if ¬ (x168 < 0 ∨ L ≤ x168.toNatClampNeg) then lt_ (v3 + (2 : Int32)) (fun x170 => if ¬ (x170 < 0 ∨ L ≤ x170.toNatClampNeg) then lt_ (v3 + (3 : Int32)) (fun x172 => if ¬ (x172 < 0 ∨ L ≤ x172.toNatClampNeg) then (f_X9_hear (sx x168.toNatClampNeg) (sx x170.toNatClampNeg) (sx x172.toNatClampNeg) M).bind (fun q174 => lt_ (v3 + (1 : Int32)) (fun x175 => if ¬ (x175 < 0 ∨ L ≤ x175.toNatClampNeg) then lt_ (v3 + (2 : Int32)) (fun x177 => if ¬ (x177 < 0 ∨ L ≤ x177.toNatClampNeg) then lt_ (v3 + (3 : Int32)) (fun x179 => if ¬ (x179 < 0 ∨ L ≤ x179.toNatClampNeg) then (f_X10_hear (sx x175.toNatClampNeg) (sx x177.toNatClampNeg) (sx x179.toNatClampNeg) q174.2).bind (fun q181 => if q174.1 = q181.1 then f_L_law_1031 sx L (f_L_law_18 sx L n) v3 q181.2 else some ((0 : Int32), q181.2)) else none) else none) else none)) else none) else none) else none) else if x3 = 20 then (f_X9_unhear M).bind (fun q184 => (f_X10_unhear q184.2).bind (fun q185 => if q184.1 = q185.1 then f_L_law_1031 sx L (f_L_law_18 sx L n) v3 q185.2 else some ((0 : Int32), q185.2))) else if x3 = 21 then lt_ (v3 + (1 : Int32)) (fun x188 => if ¬ (x188 < 0 ∨ L ≤ x188.toNatClampNeg) then (f_X9_had (sx x188.toNatClampNeg) M).bind (fun q190 => lt_ (v3 + (1 : Int32)) (fun x191 => if ¬ (x191 < 0 ∨ L ≤ x191.toNatClampNeg) then (f_X10_had (sx x191.toNatClampNeg) q190.2).bind (fun q193 => if q190.1 = q193.1 then f_L_law_1031 sx L (f_L_law_18 sx L n) v3 q193.2 else some ((0 : Int32), q193.2)) else none)) else none) else if x3 = 22 then lt_ (v3 + (1 : Int32)) (fun x196 => if ¬ (x196 < 0 ∨ L ≤ x196.toNatClampNeg) then lt_ (v3 + (2 : Int32)) (fun x198 => if ¬ (x198 < 0 ∨ L ≤ x198.toNatClampNeg) then if (sx x198.toNatClampNeg) = 0 then f_L_law_753 sx L (f_L_law_18 sx L n) v3 (sx x196.toNatClampNeg) 0 M else f_L_law_753 sx L (f_L_law_18 sx L n) v3 (sx x196.toNatClampNeg) 1 M else none) else none) else if x3 = 23 then lt_ (v3 + (1 : Int32)) (fun x202 => if ¬ (x202 < 0 ∨ L ≤ x202.toNatClampNeg) then lt_ (v3 + (2 : Int32)) (fun x204 => if ¬ (x204 < 0 ∨ L ≤ x204.toNatClampNeg) then lt_ (v3 + (3 : Int32)) (fun x206 => if ¬ (x206 < 0 ∨ L ≤ x206.toNatClampNeg) then (f_X9_rests (sx x202.toNatClampNeg) (sx x204.toNatClampNeg) (sx x206.toNatClampNeg) M).bind (fun q208 => lt_ (v3 + (1 : Int32)) (fun x209 => if ¬ (x209 < 0 ∨ L ≤ x209.toNatClampNeg) then lt_ (v3 + (2 : Int32)) (fun x211 => if ¬ (x211 < 0 ∨ L ≤ x211.toNatClampNeg) then lt_ (v3 + (3 : Int32)) (fun x213 => if ¬ (x213 < 0 ∨ L ≤ x213.toNatClampNeg) then (f_X10_rests (sx x209.toNatClampNeg) (sx x211.toNatClampNeg) (sx x213.toNatClampNeg) q208.2).bind (fun q215 => if q208.1 = q215.1 then f_L_law_1031 sx L (f_L_law_18 sx L n) v3 q215.2 else some ((0 : Int32), q215.2)) else none) else none) else none)) else none) else none) else none) else if x3 = 24 then lt_ (v3 + (1 : Int32)) (fun x218 => if ¬ (x218 < 0 ∨ L ≤ x218.toNatClampNeg) then lt_ (v3 + (2 : Int32)) (fun x220 => if ¬ (x220 < 0 ∨ L ≤ x220.toNatClampNeg) then lt_ (v3 + (3 : Int32)) (fun x222 => if ¬ (x222 < 0 ∨ L ≤ x222.toNatClampNeg) then if (sx x222.toNatClampNeg) = 0 then f_L_law_850 sx L (f_L_law_18 sx L n) v3 (sx x218.toNatClampNeg) (sx x220.toNatClampNeg) 0 M else f_L_law_850 sx L (f_L_law_18 sx L n) v3 (sx x218.toNatClampNeg) (sx x220.toNatClampNeg) 1 M else none) else none) else none) else if x3 = 25 then lt_ (v3 + (1 : Int32)) (fun x226 => if ¬ (x226 < 0 ∨ L ≤ x226.toNatClampNeg) then lt_ (v3 + (2 : Int32)) (fun x228 => if ¬ (x228 < 0 ∨ L ≤ x228.toNatClampNeg) then (f_X9_seed ((((sx x226.toNatClampNeg).toInt64) <<< ((32 : Int32).toInt64 &&& 63)) ||| (((sx x228.toNatClampNeg).toInt64) &&& (4294967295 : Int64))) M).bind (fun q230 => lt_ (v3 + (1 : Int32)) (fun x231 => if ¬ (x231 < 0 ∨ L ≤ x231.toNatClampNeg) then lt_ (v3 + (2 : Int32)) (fun x233 => if ¬ (x233 < 0 ∨ L ≤ x233.toNatClampNeg) then (f_X10_seed ((((sx x231.toNatClampNeg).toInt64) <<< ((32 : Int32).toInt64 &&& 63)) ||| (((sx x233.toNatClampNeg).toInt64) &&& (4294967295 : Int64))) q230.2).bind (fun q235 => if (lg_cmp q230.1 q235.1) = 0 then f_L_law_1031 sx L (f_L_law_18 sx L n) v3 q235.2 else some ((0 : Int32), q235.2)) else none) else none)) else none) else none) else if x3 = 26 then lt_ (v3 + (1 : Int32)) (fun x238 => if ¬ (x238 < 0 ∨ L ≤ x238.toNatClampNeg) then (f_X9_years (sx x238.toNatClampNeg) M).bind (fun q240 => lt_ (v3 + (1 : Int32)) (fun x241 => if ¬ (x241 < 0 ∨ L ≤ x241.toNatClampNeg) then (f_X10_years (sx x241.toNatClampNeg) q240.2).bind (fun q243 => if q240.1 = q243.1 then f_L_law_1031 sx L (f_L_law_18 sx L n) v3 q243.2 else some ((0 : Int32), q243.2)) else none)) else none) else if x3 = 27 then lt_ (v3 + (1 : Int32)) (fun x246 => if ¬ (x246 < 0 ∨ L ≤ x246.toNatClampNeg) then (f_X9_keep (sx x246.toNatClampNeg) M).bind (fun q248 => lt_ (v3 + (1 : Int32)) (fun x249 => if ¬ (x249 < 0 ∨ L ≤ x249.toNatClampNeg) then (f_X10_keep (sx x249.toNatClampNeg) q248.2).bind (fun q251 => if q248.1 = q251.1 then f_L_law_1031 sx L (f_L_law_18 sx L n) v3 q251.2 else some ((0 : Int32), q251.2)) else none)) else none) else if x3 = 28 then lt_ (v3 + (1 : Int32)) (fun x254 => if ¬ (x254 < 0 ∨ L ≤ x254.toNatClampNeg) then (f_X9_again (sx x254.toNatClampNeg) M).bind (fun q256 => lt_ (v3 + (1 : Int32)) (fun x257 => if ¬ (x257 < 0 ∨ L ≤ x257.toNatClampNeg) then (f_X10_again (sx x257.toNatClampNeg) q256.2).bind (fun q259 => if q256.1 = q259.1 then f_L_law_1031 sx L (f_L_law_18 sx L n) v3 q259.2 else some ((0 : Int32), q259.2)) else none)) else none) else if x3 = 29 then lt_ (v3 + (1 : Int32)) (fun x262 => if ¬ (x262 < 0 ∨ L ≤ x262.toNatClampNeg) then (f_X9_count (sx x262.toNatClampNeg) M).bind (fun q264 => lt_ (v3 + (1 : Int32)) (fun x265 => if ¬ (x265 < 0 ∨ L ≤ x265.toNatClampNeg) then (f_X10_count (sx x265.toNatClampNeg) M).bind (fun q267 => if q264 = q267 then f_L_law_1031 sx L (f_L_law_18 sx L n) v3 M else some ((0 : Int32), M)) else none)) else none) else f_L_law_1031 sx L (f_L_law_18 sx L n) v3 M) else none
set_option maxHeartbeats 4000000 in
set_option maxRecDepth 100000 in
theorem k_L_law_18 {g : GT} {X : XT} {sx : Nat → Int32} {L b : Nat} {t : Int32 × Mem} (C : Cx g X cL_law RL 4 9) (hr : (xt X).sig.returnType = ret) (hR : LwR X b) (hX : va_X b L sx (xs X) (xs X).heap) (hbl : b < (xs X).heap.size) (hbA : ¬ gA g b) (hge : ∀ q, gA g q → (xs X).heap.size ≤ q) (ht : t.1 = 1) (n : Nat) : ∀ (v3 : Int32) (M : Mem), f_L_law_18 sx L n v3 M = some t → Kj g X 4 18 [some (.ref b), some (.ref (ga g 20 0)), some (.ref (ga g 27 0)), some (.int v3)] [] M := by
  induction n with
  | zero => intro v3 M h; rw [f_L_law_18] at h; cases h
  | succ n ih =>
    intro v3 M h
    rw [f_L_law_18] at h
    refine kj_ild3 (pc := 18) C dL_law_18 ?_
    refine kj_ald0 (pc := 19) C dL_law_19 ?_
    refine kj_slen (pc := 20) C hX hbl hbA dL_law_20 ?_
    refine kj_iconst (pc := 21) C (v := 5) dL_law_21 ci_5 ?_
    refine kj_isub (pc := 22) C dL_law_22 ?_
    refine kj_icmp_gt (pc := 23) C dL_law_23 (tgt := 1037) (by decide) (fun c1 => ?_) (fun c1 => ?_)
    · have h := of_pos c1 h
      refine kj_iconst (pc := 1037) C (v := 1) dL_law_1037 ci_1 ?_
      exact kj_lawret (pc := 1038) C hr hR hge dL_law_1038
    · have h := of_neg c1 h
      refine kj_ald0 (pc := 26) C dL_law_26 ?_
      refine kj_ild3 (pc := 27) C dL_law_27 ?_
      obtain ⟨c2, h⟩ := of_gd h
      refine kj_sld (pc := 28) C hX hbl hbA c2 dL_law_28 ?_
      refine kj_bipush (pc := 29) C (v := 31) dL_law_29 cb_31 ?_
      refine kj_iand (pc := 31) C dL_law_31 ?_
      obtain ⟨x3, ex3, h⟩ := of_lt h
      refine kj_ni ex3 ?_
      rcases Classical.em (x3 = 0) with c11 | c11
      · have h := of_pos c11 h
        refine kj_tsIn (pc := 32) C (off := 136) (tgt := 168) dL_law_32 (by rw [c11]; decide) (by rw [c11]; decide) (by rw [c11]; decide) (by decide) ?_
        refine kj_ald1 (pc := 168) C dL_law_168 ?_
        refine kj_ald0 (pc := 169) C dL_law_169 ?_
        refine kj_ild3 (pc := 170) C dL_law_170 ?_
        refine kj_iconst (pc := 171) C (v := 1) dL_law_171 ci_1 ?_
        refine kj_iadd (pc := 172) C dL_law_172 ?_
        obtain ⟨x4, ex4, h⟩ := of_lt h
        refine kj_ni ex4 ?_
        obtain ⟨c5, h⟩ := of_gd h
        refine kj_sld (pc := 173) C hX hbl hbA c5 dL_law_173 ?_
        obtain ⟨q6, eq6, h⟩ := of_bind h
        refine kj_callV1 (pc := 174) C (ct_X9_write eq6) (Nat.le_of_ble_eq_true rfl) mi_X9_write ml_L_13 rc_20 rfl rfl ar1 (Nat.le_of_ble_eq_true rfl) dL_law_174 ?_
        refine kj_ald2 (pc := 177) C dL_law_177 ?_
        refine kj_ald0 (pc := 178) C dL_law_178 ?_
        refine kj_ild3 (pc := 179) C dL_law_179 ?_
        refine kj_iconst (pc := 180) C (v := 1) dL_law_180 ci_1 ?_
        refine kj_iadd (pc := 181) C dL_law_181 ?_
        obtain ⟨x7, ex7, h⟩ := of_lt h
        refine kj_ni ex7 ?_
        obtain ⟨c8, h⟩ := of_gd h
        refine kj_sld (pc := 182) C hX hbl hbA c8 dL_law_182 ?_
        obtain ⟨q9, eq9, h⟩ := of_bind h
        refine kj_callV1 (pc := 183) C (ct_X10_write eq9) (Nat.le_of_ble_eq_true rfl) mi_X10_write ml_L_17 rc_27 rfl rfl ar1 (Nat.le_of_ble_eq_true rfl) dL_law_183 ?_
        refine kj_icmp_eq (pc := 186) C dL_law_186 (tgt := 1031) (by decide) (fun c10 => ?_) (fun c10 => ?_)
        · have h := of_pos c10 h
          exact k_L_law_1031 C hr hR hX hbl hbA hge ht ih _ _ h
        · have h := of_neg c10 h
          refine kj_iconst (pc := 189) C (v := 0) dL_law_189 ci_0 ?_
          cases h
          exact absurd (show (0 : Int32) = 1 from ht) (by decide)
      · have h := of_neg c11 h
        rcases Classical.em (x3 = 1) with c15 | c15
        · have h := of_pos c15 h
          refine kj_tsIn (pc := 32) C (off := 159) (tgt := 191) dL_law_32 (by rw [c15]; decide) (by rw [c15]; decide) (by rw [c15]; decide) (by decide) ?_
          refine kj_ald1 (pc := 191) C dL_law_191 ?_
          obtain ⟨q12, eq12, h⟩ := of_bind h
          refine kj_callV1 (pc := 192) C (ct_X9_wipe eq12) (Nat.le_of_ble_eq_true rfl) mi_X9_wipe ml_L_18 rc_20 rfl rfl ar0 (Nat.le_of_ble_eq_true rfl) dL_law_192 ?_
          refine kj_ald2 (pc := 195) C dL_law_195 ?_
          obtain ⟨q13, eq13, h⟩ := of_bind h
          refine kj_callV1 (pc := 196) C (ct_X10_wipe eq13) (Nat.le_of_ble_eq_true rfl) mi_X10_wipe ml_L_22 rc_27 rfl rfl ar0 (Nat.le_of_ble_eq_true rfl) dL_law_196 ?_
          refine kj_icmp_eq (pc := 199) C dL_law_199 (tgt := 1031) (by decide) (fun c14 => ?_) (fun c14 => ?_)
          · have h := of_pos c14 h
            exact k_L_law_1031 C hr hR hX hbl hbA hge ht ih _ _ h
          · have h := of_neg c14 h
            refine kj_iconst (pc := 202) C (v := 0) dL_law_202 ci_0 ?_
            cases h
            exact absurd (show (0 : Int32) = 1 from ht) (by decide)
        · have h := of_neg c15 h
          rcases Classical.em (x3 = 2) with c19 | c19
          · have h := of_pos c19 h
            refine kj_tsIn (pc := 32) C (off := 172) (tgt := 204) dL_law_32 (by rw [c19]; decide) (by rw [c19]; decide) (by rw [c19]; decide) (by decide) ?_
            refine kj_ald1 (pc := 204) C dL_law_204 ?_
            obtain ⟨q16, eq16, h⟩ := of_bind h
            refine kj_callV1 (pc := 205) C (ct_X9_fault eq16) (Nat.le_of_ble_eq_true rfl) mi_X9_fault ml_L_23 rc_20 rfl rfl ar0 (Nat.le_of_ble_eq_true rfl) dL_law_205 ?_
            refine kj_ald2 (pc := 208) C dL_law_208 ?_
            obtain ⟨q17, eq17, h⟩ := of_bind h
            refine kj_callV1 (pc := 209) C (ct_X10_fault eq17) (Nat.le_of_ble_eq_true rfl) mi_X10_fault ml_L_26 rc_27 rfl rfl ar0 (Nat.le_of_ble_eq_true rfl) dL_law_209 ?_
            refine kj_icmp_eq (pc := 212) C dL_law_212 (tgt := 1031) (by decide) (fun c18 => ?_) (fun c18 => ?_)
            · have h := of_pos c18 h
              exact k_L_law_1031 C hr hR hX hbl hbA hge ht ih _ _ h
            · have h := of_neg c18 h
              refine kj_iconst (pc := 215) C (v := 0) dL_law_215 ci_0 ?_
              cases h
              exact absurd (show (0 : Int32) = 1 from ht) (by decide)
          · have h := of_neg c19 h
            rcases Classical.em (x3 = 3) with c23 | c23
            · have h := of_pos c23 h
              refine kj_tsIn (pc := 32) C (off := 185) (tgt := 217) dL_law_32 (by rw [c23]; decide) (by rw [c23]; decide) (by rw [c23]; decide) (by decide) ?_
              refine kj_ald1 (pc := 217) C dL_law_217 ?_
              obtain ⟨q20, eq20, h⟩ := of_bind h
              refine kj_callV1 (pc := 218) C (ct_X9_choir eq20) (Nat.le_of_ble_eq_true rfl) mi_X9_choir ml_L_27 rc_20 rfl rfl ar0 (Nat.le_of_ble_eq_true rfl) dL_law_218 ?_
              refine kj_ald2 (pc := 221) C dL_law_221 ?_
              obtain ⟨q21, eq21, h⟩ := of_bind h
              refine kj_callV1 (pc := 222) C (ct_X10_choir eq21) (Nat.le_of_ble_eq_true rfl) mi_X10_choir ml_L_30 rc_27 rfl rfl ar0 (Nat.le_of_ble_eq_true rfl) dL_law_222 ?_
              refine kj_icmp_eq (pc := 225) C dL_law_225 (tgt := 1031) (by decide) (fun c22 => ?_) (fun c22 => ?_)
              · have h := of_pos c22 h
                exact k_L_law_1031 C hr hR hX hbl hbA hge ht ih _ _ h
              · have h := of_neg c22 h
                refine kj_iconst (pc := 228) C (v := 0) dL_law_228 ci_0 ?_
                cases h
                exact absurd (show (0 : Int32) = 1 from ht) (by decide)
            · have h := of_neg c23 h
              rcases Classical.em (x3 = 4) with c35 | c35
              · have h := of_pos c35 h
                refine kj_tsIn (pc := 32) C (off := 198) (tgt := 230) dL_law_32 (by rw [c35]; decide) (by rw [c35]; decide) (by rw [c35]; decide) (by decide) ?_
                refine kj_ald1 (pc := 230) C dL_law_230 ?_
                refine kj_ald0 (pc := 231) C dL_law_231 ?_
                refine kj_ild3 (pc := 232) C dL_law_232 ?_
                refine kj_iconst (pc := 233) C (v := 1) dL_law_233 ci_1 ?_
                refine kj_iadd (pc := 234) C dL_law_234 ?_
                obtain ⟨x24, ex24, h⟩ := of_lt h
                refine kj_ni ex24 ?_
                obtain ⟨c25, h⟩ := of_gd h
                refine kj_sld (pc := 235) C hX hbl hbA c25 dL_law_235 ?_
                refine kj_ald0 (pc := 236) C dL_law_236 ?_
                refine kj_ild3 (pc := 237) C dL_law_237 ?_
                refine kj_iconst (pc := 238) C (v := 2) dL_law_238 ci_2 ?_
                refine kj_iadd (pc := 239) C dL_law_239 ?_
                obtain ⟨x26, ex26, h⟩ := of_lt h
                refine kj_ni ex26 ?_
                obtain ⟨c27, h⟩ := of_gd h
                refine kj_sld (pc := 240) C hX hbl hbA c27 dL_law_240 ?_
                obtain ⟨q28, eq28, h⟩ := of_bind h
                refine kj_callV1 (pc := 241) C (ct_X9_singer eq28) (Nat.le_of_ble_eq_true rfl) mi_X9_singer ml_L_31 rc_20 rfl rfl ar2 (Nat.le_of_ble_eq_true rfl) dL_law_241 ?_
                refine kj_ald2 (pc := 244) C dL_law_244 ?_
                refine kj_ald0 (pc := 245) C dL_law_245 ?_
                refine kj_ild3 (pc := 246) C dL_law_246 ?_
                refine kj_iconst (pc := 247) C (v := 1) dL_law_247 ci_1 ?_
                refine kj_iadd (pc := 248) C dL_law_248 ?_
                obtain ⟨x29, ex29, h⟩ := of_lt h
                refine kj_ni ex29 ?_
                obtain ⟨c30, h⟩ := of_gd h
                refine kj_sld (pc := 249) C hX hbl hbA c30 dL_law_249 ?_
                refine kj_ald0 (pc := 250) C dL_law_250 ?_
                refine kj_ild3 (pc := 251) C dL_law_251 ?_
                refine kj_iconst (pc := 252) C (v := 2) dL_law_252 ci_2 ?_
                refine kj_iadd (pc := 253) C dL_law_253 ?_
                obtain ⟨x31, ex31, h⟩ := of_lt h
                refine kj_ni ex31 ?_
                obtain ⟨c32, h⟩ := of_gd h
                refine kj_sld (pc := 254) C hX hbl hbA c32 dL_law_254 ?_
                obtain ⟨q33, eq33, h⟩ := of_bind h
                refine kj_callV1 (pc := 255) C (ct_X10_singer eq33) (Nat.le_of_ble_eq_true rfl) mi_X10_singer ml_L_35 rc_27 rfl rfl ar2 (Nat.le_of_ble_eq_true rfl) dL_law_255 ?_
                refine kj_icmp_eq (pc := 258) C dL_law_258 (tgt := 1031) (by decide) (fun c34 => ?_) (fun c34 => ?_)
                · have h := of_pos c34 h
                  exact k_L_law_1031 C hr hR hX hbl hbA hge ht ih _ _ h
                · have h := of_neg c34 h
                  refine kj_iconst (pc := 261) C (v := 0) dL_law_261 ci_0 ?_
                  cases h
                  exact absurd (show (0 : Int32) = 1 from ht) (by decide)
              · have h := of_neg c35 h
                rcases Classical.em (x3 = 5) with c43 | c43
                · have h := of_pos c43 h
                  refine kj_tsIn (pc := 32) C (off := 231) (tgt := 263) dL_law_32 (by rw [c43]; decide) (by rw [c43]; decide) (by rw [c43]; decide) (by decide) ?_
                  refine kj_ald1 (pc := 263) C dL_law_263 ?_
                  refine kj_ald0 (pc := 264) C dL_law_264 ?_
                  refine kj_ild3 (pc := 265) C dL_law_265 ?_
                  refine kj_iconst (pc := 266) C (v := 1) dL_law_266 ci_1 ?_
                  refine kj_iadd (pc := 267) C dL_law_267 ?_
                  obtain ⟨x36, ex36, h⟩ := of_lt h
                  refine kj_ni ex36 ?_
                  obtain ⟨c37, h⟩ := of_gd h
                  refine kj_sld (pc := 268) C hX hbl hbA c37 dL_law_268 ?_
                  obtain ⟨q38, eq38, h⟩ := of_bind h
                  refine kj_callV1 (pc := 269) C (ct_X9_seat eq38) (Nat.le_of_ble_eq_true rfl) mi_X9_seat ml_L_36 rc_20 rfl rfl ar1 (Nat.le_of_ble_eq_true rfl) dL_law_269 ?_
                  refine kj_ald2 (pc := 272) C dL_law_272 ?_
                  refine kj_ald0 (pc := 273) C dL_law_273 ?_
                  refine kj_ild3 (pc := 274) C dL_law_274 ?_
                  refine kj_iconst (pc := 275) C (v := 1) dL_law_275 ci_1 ?_
                  refine kj_iadd (pc := 276) C dL_law_276 ?_
                  obtain ⟨x39, ex39, h⟩ := of_lt h
                  refine kj_ni ex39 ?_
                  obtain ⟨c40, h⟩ := of_gd h
                  refine kj_sld (pc := 277) C hX hbl hbA c40 dL_law_277 ?_
                  obtain ⟨q41, eq41, h⟩ := of_bind h
                  refine kj_callV1 (pc := 278) C (ct_X10_seat eq41) (Nat.le_of_ble_eq_true rfl) mi_X10_seat ml_L_39 rc_27 rfl rfl ar1 (Nat.le_of_ble_eq_true rfl) dL_law_278 ?_
                  refine kj_icmp_eq (pc := 281) C dL_law_281 (tgt := 1031) (by decide) (fun c42 => ?_) (fun c42 => ?_)
                  · have h := of_pos c42 h
                    exact k_L_law_1031 C hr hR hX hbl hbA hge ht ih _ _ h
                  · have h := of_neg c42 h
                    refine kj_iconst (pc := 284) C (v := 0) dL_law_284 ci_0 ?_
                    cases h
                    exact absurd (show (0 : Int32) = 1 from ht) (by decide)
                · have h := of_neg c43 h
                  rcases Classical.em (x3 = 6) with c47 | c47
                  · have h := of_pos c47 h
                    refine kj_tsIn (pc := 32) C (off := 254) (tgt := 286) dL_law_32 (by rw [c47]; decide) (by rw [c47]; decide) (by rw [c47]; decide) (by decide) ?_
                    refine kj_ald1 (pc := 286) C dL_law_286 ?_
                    obtain ⟨q44, eq44, h⟩ := of_bind h
                    refine kj_callV1 (pc := 287) C (ct_X9_bar eq44) (Nat.le_of_ble_eq_true rfl) mi_X9_bar ml_L_40 rc_20 rfl rfl ar0 (Nat.le_of_ble_eq_true rfl) dL_law_287 ?_
                    refine kj_ald2 (pc := 290) C dL_law_290 ?_
                    obtain ⟨q45, eq45, h⟩ := of_bind h
                    refine kj_callV1 (pc := 291) C (ct_X10_bar eq45) (Nat.le_of_ble_eq_true rfl) mi_X10_bar ml_L_43 rc_27 rfl rfl ar0 (Nat.le_of_ble_eq_true rfl) dL_law_291 ?_
                    refine kj_icmp_eq (pc := 294) C dL_law_294 (tgt := 1031) (by decide) (fun c46 => ?_) (fun c46 => ?_)
                    · have h := of_pos c46 h
                      exact k_L_law_1031 C hr hR hX hbl hbA hge ht ih _ _ h
                    · have h := of_neg c46 h
                      refine kj_iconst (pc := 297) C (v := 0) dL_law_297 ci_0 ?_
                      cases h
                      exact absurd (show (0 : Int32) = 1 from ht) (by decide)
                  · have h := of_neg c47 h
                    rcases Classical.em (x3 = 7) with c59 | c59
                    · have h := of_pos c59 h
                      refine kj_tsIn (pc := 32) C (off := 267) (tgt := 299) dL_law_32 (by rw [c59]; decide) (by rw [c59]; decide) (by rw [c59]; decide) (by decide) ?_
                      refine kj_ald1 (pc := 299) C dL_law_299 ?_
                      refine kj_ald0 (pc := 300) C dL_law_300 ?_
                      refine kj_ild3 (pc := 301) C dL_law_301 ?_
                      refine kj_iconst (pc := 302) C (v := 1) dL_law_302 ci_1 ?_
                      refine kj_iadd (pc := 303) C dL_law_303 ?_
                      obtain ⟨x48, ex48, h⟩ := of_lt h
                      refine kj_ni ex48 ?_
                      obtain ⟨c49, h⟩ := of_gd h
                      refine kj_sld (pc := 304) C hX hbl hbA c49 dL_law_304 ?_
                      refine kj_ald0 (pc := 305) C dL_law_305 ?_
                      refine kj_ild3 (pc := 306) C dL_law_306 ?_
                      refine kj_iconst (pc := 307) C (v := 2) dL_law_307 ci_2 ?_
                      refine kj_iadd (pc := 308) C dL_law_308 ?_
                      obtain ⟨x50, ex50, h⟩ := of_lt h
                      refine kj_ni ex50 ?_
                      obtain ⟨c51, h⟩ := of_gd h
                      refine kj_sld (pc := 309) C hX hbl hbA c51 dL_law_309 ?_
                      obtain ⟨q52, eq52, h⟩ := of_bind h
                      refine kj_callV1 (pc := 310) C (ct_X9_gift eq52) (Nat.le_of_ble_eq_true rfl) mi_X9_gift ml_L_44 rc_20 rfl rfl ar2 (Nat.le_of_ble_eq_true rfl) dL_law_310 ?_
                      refine kj_ald2 (pc := 313) C dL_law_313 ?_
                      refine kj_ald0 (pc := 314) C dL_law_314 ?_
                      refine kj_ild3 (pc := 315) C dL_law_315 ?_
                      refine kj_iconst (pc := 316) C (v := 1) dL_law_316 ci_1 ?_
                      refine kj_iadd (pc := 317) C dL_law_317 ?_
                      obtain ⟨x53, ex53, h⟩ := of_lt h
                      refine kj_ni ex53 ?_
                      obtain ⟨c54, h⟩ := of_gd h
                      refine kj_sld (pc := 318) C hX hbl hbA c54 dL_law_318 ?_
                      refine kj_ald0 (pc := 319) C dL_law_319 ?_
                      refine kj_ild3 (pc := 320) C dL_law_320 ?_
                      refine kj_iconst (pc := 321) C (v := 2) dL_law_321 ci_2 ?_
                      refine kj_iadd (pc := 322) C dL_law_322 ?_
                      obtain ⟨x55, ex55, h⟩ := of_lt h
                      refine kj_ni ex55 ?_
                      obtain ⟨c56, h⟩ := of_gd h
                      refine kj_sld (pc := 323) C hX hbl hbA c56 dL_law_323 ?_
                      obtain ⟨q57, eq57, h⟩ := of_bind h
                      refine kj_callV1 (pc := 324) C (ct_X10_gift eq57) (Nat.le_of_ble_eq_true rfl) mi_X10_gift ml_L_47 rc_27 rfl rfl ar2 (Nat.le_of_ble_eq_true rfl) dL_law_324 ?_
                      refine kj_icmp_eq (pc := 327) C dL_law_327 (tgt := 1031) (by decide) (fun c58 => ?_) (fun c58 => ?_)
                      · have h := of_pos c58 h
                        exact k_L_law_1031 C hr hR hX hbl hbA hge ht ih _ _ h
                      · have h := of_neg c58 h
                        refine kj_iconst (pc := 330) C (v := 0) dL_law_330 ci_0 ?_
                        cases h
                        exact absurd (show (0 : Int32) = 1 from ht) (by decide)
                    · have h := of_neg c59 h
                      rcases Classical.em (x3 = 8) with c71 | c71
                      · have h := of_pos c71 h
                        refine kj_tsIn (pc := 32) C (off := 300) (tgt := 332) dL_law_32 (by rw [c71]; decide) (by rw [c71]; decide) (by rw [c71]; decide) (by decide) ?_
                        refine kj_ald1 (pc := 332) C dL_law_332 ?_
                        refine kj_ald0 (pc := 333) C dL_law_333 ?_
                        refine kj_ild3 (pc := 334) C dL_law_334 ?_
                        refine kj_iconst (pc := 335) C (v := 1) dL_law_335 ci_1 ?_
                        refine kj_iadd (pc := 336) C dL_law_336 ?_
                        obtain ⟨x60, ex60, h⟩ := of_lt h
                        refine kj_ni ex60 ?_
                        obtain ⟨c61, h⟩ := of_gd h
                        refine kj_sld (pc := 337) C hX hbl hbA c61 dL_law_337 ?_
                        refine kj_ald0 (pc := 338) C dL_law_338 ?_
                        refine kj_ild3 (pc := 339) C dL_law_339 ?_
                        refine kj_iconst (pc := 340) C (v := 2) dL_law_340 ci_2 ?_
                        refine kj_iadd (pc := 341) C dL_law_341 ?_
                        obtain ⟨x62, ex62, h⟩ := of_lt h
                        refine kj_ni ex62 ?_
                        obtain ⟨c63, h⟩ := of_gd h
                        refine kj_sld (pc := 342) C hX hbl hbA c63 dL_law_342 ?_
                        obtain ⟨q64, eq64, h⟩ := of_bind h
                        refine kj_callV1 (pc := 343) C (ct_X9_change eq64) (Nat.le_of_ble_eq_true rfl) mi_X9_change ml_L_48 rc_20 rfl rfl ar2 (Nat.le_of_ble_eq_true rfl) dL_law_343 ?_
                        refine kj_ald2 (pc := 346) C dL_law_346 ?_
                        refine kj_ald0 (pc := 347) C dL_law_347 ?_
                        refine kj_ild3 (pc := 348) C dL_law_348 ?_
                        refine kj_iconst (pc := 349) C (v := 1) dL_law_349 ci_1 ?_
                        refine kj_iadd (pc := 350) C dL_law_350 ?_
                        obtain ⟨x65, ex65, h⟩ := of_lt h
                        refine kj_ni ex65 ?_
                        obtain ⟨c66, h⟩ := of_gd h
                        refine kj_sld (pc := 351) C hX hbl hbA c66 dL_law_351 ?_
                        refine kj_ald0 (pc := 352) C dL_law_352 ?_
                        refine kj_ild3 (pc := 353) C dL_law_353 ?_
                        refine kj_iconst (pc := 354) C (v := 2) dL_law_354 ci_2 ?_
                        refine kj_iadd (pc := 355) C dL_law_355 ?_
                        obtain ⟨x67, ex67, h⟩ := of_lt h
                        refine kj_ni ex67 ?_
                        obtain ⟨c68, h⟩ := of_gd h
                        refine kj_sld (pc := 356) C hX hbl hbA c68 dL_law_356 ?_
                        obtain ⟨q69, eq69, h⟩ := of_bind h
                        refine kj_callV1 (pc := 357) C (ct_X10_change eq69) (Nat.le_of_ble_eq_true rfl) mi_X10_change ml_L_51 rc_27 rfl rfl ar2 (Nat.le_of_ble_eq_true rfl) dL_law_357 ?_
                        refine kj_icmp_eq (pc := 360) C dL_law_360 (tgt := 1031) (by decide) (fun c70 => ?_) (fun c70 => ?_)
                        · have h := of_pos c70 h
                          exact k_L_law_1031 C hr hR hX hbl hbA hge ht ih _ _ h
                        · have h := of_neg c70 h
                          refine kj_iconst (pc := 363) C (v := 0) dL_law_363 ci_0 ?_
                          cases h
                          exact absurd (show (0 : Int32) = 1 from ht) (by decide)
                      · have h := of_neg c71 h
                        rcases Classical.em (x3 = 9) with c75 | c75
                        · have h := of_pos c75 h
                          refine kj_tsIn (pc := 32) C (off := 333) (tgt := 365) dL_law_32 (by rw [c75]; decide) (by rw [c75]; decide) (by rw [c75]; decide) (by decide) ?_
                          refine kj_ald1 (pc := 365) C dL_law_365 ?_
                          obtain ⟨q72, eq72, h⟩ := of_bind h
                          refine kj_callV1 (pc := 366) C (ct_X9_pitch eq72) (Nat.le_of_ble_eq_true rfl) mi_X9_pitch ml_L_52 rc_20 rfl rfl ar0 (Nat.le_of_ble_eq_true rfl) dL_law_366 ?_
                          refine kj_ald2 (pc := 369) C dL_law_369 ?_
                          obtain ⟨q73, eq73, h⟩ := of_bind h
                          refine kj_callV1 (pc := 370) C (ct_X10_pitch eq73) (Nat.le_of_ble_eq_true rfl) mi_X10_pitch ml_L_55 rc_27 rfl rfl ar0 (Nat.le_of_ble_eq_true rfl) dL_law_370 ?_
                          refine kj_icmp_eq (pc := 373) C dL_law_373 (tgt := 1031) (by decide) (fun c74 => ?_) (fun c74 => ?_)
                          · have h := of_pos c74 h
                            exact k_L_law_1031 C hr hR hX hbl hbA hge ht ih _ _ h
                          · have h := of_neg c74 h
                            refine kj_iconst (pc := 376) C (v := 0) dL_law_376 ci_0 ?_
                            cases h
                            exact absurd (show (0 : Int32) = 1 from ht) (by decide)
                        · have h := of_neg c75 h
                          rcases Classical.em (x3 = 10) with c83 | c83
                          · have h := of_pos c83 h
                            refine kj_tsIn (pc := 32) C (off := 346) (tgt := 378) dL_law_32 (by rw [c83]; decide) (by rw [c83]; decide) (by rw [c83]; decide) (by decide) ?_
                            refine kj_ald1 (pc := 378) C dL_law_378 ?_
                            refine kj_ald0 (pc := 379) C dL_law_379 ?_
                            refine kj_ild3 (pc := 380) C dL_law_380 ?_
                            refine kj_iconst (pc := 381) C (v := 1) dL_law_381 ci_1 ?_
                            refine kj_iadd (pc := 382) C dL_law_382 ?_
                            obtain ⟨x76, ex76, h⟩ := of_lt h
                            refine kj_ni ex76 ?_
                            obtain ⟨c77, h⟩ := of_gd h
                            refine kj_sld (pc := 383) C hX hbl hbA c77 dL_law_383 ?_
                            obtain ⟨q78, eq78, h⟩ := of_bind h
                            refine kj_callV1 (pc := 384) C (ct_X9_hold eq78) (Nat.le_of_ble_eq_true rfl) mi_X9_hold ml_L_56 rc_20 rfl rfl ar1 (Nat.le_of_ble_eq_true rfl) dL_law_384 ?_
                            refine kj_ald2 (pc := 387) C dL_law_387 ?_
                            refine kj_ald0 (pc := 388) C dL_law_388 ?_
                            refine kj_ild3 (pc := 389) C dL_law_389 ?_
                            refine kj_iconst (pc := 390) C (v := 1) dL_law_390 ci_1 ?_
                            refine kj_iadd (pc := 391) C dL_law_391 ?_
                            obtain ⟨x79, ex79, h⟩ := of_lt h
                            refine kj_ni ex79 ?_
                            obtain ⟨c80, h⟩ := of_gd h
                            refine kj_sld (pc := 392) C hX hbl hbA c80 dL_law_392 ?_
                            obtain ⟨q81, eq81, h⟩ := of_bind h
                            refine kj_callV1 (pc := 393) C (ct_X10_hold eq81) (Nat.le_of_ble_eq_true rfl) mi_X10_hold ml_L_59 rc_27 rfl rfl ar1 (Nat.le_of_ble_eq_true rfl) dL_law_393 ?_
                            refine kj_icmp_eq (pc := 396) C dL_law_396 (tgt := 1031) (by decide) (fun c82 => ?_) (fun c82 => ?_)
                            · have h := of_pos c82 h
                              exact k_L_law_1031 C hr hR hX hbl hbA hge ht ih _ _ h
                            · have h := of_neg c82 h
                              refine kj_iconst (pc := 399) C (v := 0) dL_law_399 ci_0 ?_
                              cases h
                              exact absurd (show (0 : Int32) = 1 from ht) (by decide)
                          · have h := of_neg c83 h
                            rcases Classical.em (x3 = 11) with c87 | c87
                            · have h := of_pos c87 h
                              refine kj_tsIn (pc := 32) C (off := 369) (tgt := 401) dL_law_32 (by rw [c87]; decide) (by rw [c87]; decide) (by rw [c87]; decide) (by decide) ?_
                              refine kj_ald1 (pc := 401) C dL_law_401 ?_
                              obtain ⟨q84, eq84, h⟩ := of_bind h
                              refine kj_callV1 (pc := 402) C (ct_X9_undo eq84) (Nat.le_of_ble_eq_true rfl) mi_X9_undo ml_L_60 rc_20 rfl rfl ar0 (Nat.le_of_ble_eq_true rfl) dL_law_402 ?_
                              refine kj_ald2 (pc := 405) C dL_law_405 ?_
                              obtain ⟨q85, eq85, h⟩ := of_bind h
                              refine kj_callV1 (pc := 406) C (ct_X10_undo eq85) (Nat.le_of_ble_eq_true rfl) mi_X10_undo ml_L_63 rc_27 rfl rfl ar0 (Nat.le_of_ble_eq_true rfl) dL_law_406 ?_
                              refine kj_icmp_eq (pc := 409) C dL_law_409 (tgt := 1031) (by decide) (fun c86 => ?_) (fun c86 => ?_)
                              · have h := of_pos c86 h
                                exact k_L_law_1031 C hr hR hX hbl hbA hge ht ih _ _ h
                              · have h := of_neg c86 h
                                refine kj_iconst (pc := 412) C (v := 0) dL_law_412 ci_0 ?_
                                cases h
                                exact absurd (show (0 : Int32) = 1 from ht) (by decide)
                            · have h := of_neg c87 h
                              rcases Classical.em (x3 = 12) with c99 | c99
                              · have h := of_pos c99 h
                                refine kj_tsIn (pc := 32) C (off := 382) (tgt := 414) dL_law_32 (by rw [c99]; decide) (by rw [c99]; decide) (by rw [c99]; decide) (by decide) ?_
                                refine kj_ald1 (pc := 414) C dL_law_414 ?_
                                refine kj_ald0 (pc := 415) C dL_law_415 ?_
                                refine kj_ild3 (pc := 416) C dL_law_416 ?_
                                refine kj_iconst (pc := 417) C (v := 1) dL_law_417 ci_1 ?_
                                refine kj_iadd (pc := 418) C dL_law_418 ?_
                                obtain ⟨x88, ex88, h⟩ := of_lt h
                                refine kj_ni ex88 ?_
                                obtain ⟨c89, h⟩ := of_gd h
                                refine kj_sld (pc := 419) C hX hbl hbA c89 dL_law_419 ?_
                                refine kj_ald0 (pc := 420) C dL_law_420 ?_
                                refine kj_ild3 (pc := 421) C dL_law_421 ?_
                                refine kj_iconst (pc := 422) C (v := 2) dL_law_422 ci_2 ?_
                                refine kj_iadd (pc := 423) C dL_law_423 ?_
                                obtain ⟨x90, ex90, h⟩ := of_lt h
                                refine kj_ni ex90 ?_
                                obtain ⟨c91, h⟩ := of_gd h
                                refine kj_sld (pc := 424) C hX hbl hbA c91 dL_law_424 ?_
                                obtain ⟨q92, eq92, h⟩ := of_bind h
                                refine kj_callV1 (pc := 425) C (ct_X9_sings eq92) (Nat.le_of_ble_eq_true rfl) mi_X9_sings ml_L_64 rc_20 rfl rfl ar2 (Nat.le_of_ble_eq_true rfl) dL_law_425 ?_
                                refine kj_ald2 (pc := 428) C dL_law_428 ?_
                                refine kj_ald0 (pc := 429) C dL_law_429 ?_
                                refine kj_ild3 (pc := 430) C dL_law_430 ?_
                                refine kj_iconst (pc := 431) C (v := 1) dL_law_431 ci_1 ?_
                                refine kj_iadd (pc := 432) C dL_law_432 ?_
                                obtain ⟨x93, ex93, h⟩ := of_lt h
                                refine kj_ni ex93 ?_
                                obtain ⟨c94, h⟩ := of_gd h
                                refine kj_sld (pc := 433) C hX hbl hbA c94 dL_law_433 ?_
                                refine kj_ald0 (pc := 434) C dL_law_434 ?_
                                refine kj_ild3 (pc := 435) C dL_law_435 ?_
                                refine kj_iconst (pc := 436) C (v := 2) dL_law_436 ci_2 ?_
                                refine kj_iadd (pc := 437) C dL_law_437 ?_
                                obtain ⟨x95, ex95, h⟩ := of_lt h
                                refine kj_ni ex95 ?_
                                obtain ⟨c96, h⟩ := of_gd h
                                refine kj_sld (pc := 438) C hX hbl hbA c96 dL_law_438 ?_
                                obtain ⟨q97, eq97, h⟩ := of_bind h
                                refine kj_callV1 (pc := 439) C (ct_X10_sings eq97) (Nat.le_of_ble_eq_true rfl) mi_X10_sings ml_L_67 rc_27 rfl rfl ar2 (Nat.le_of_ble_eq_true rfl) dL_law_439 ?_
                                refine kj_icmp_eq (pc := 442) C dL_law_442 (tgt := 1031) (by decide) (fun c98 => ?_) (fun c98 => ?_)
                                · have h := of_pos c98 h
                                  exact k_L_law_1031 C hr hR hX hbl hbA hge ht ih _ _ h
                                · have h := of_neg c98 h
                                  refine kj_iconst (pc := 445) C (v := 0) dL_law_445 ci_0 ?_
                                  cases h
                                  exact absurd (show (0 : Int32) = 1 from ht) (by decide)
                              · have h := of_neg c99 h
                                rcases Classical.em (x3 = 13) with c107 | c107
                                · have h := of_pos c107 h
                                  refine kj_tsIn (pc := 32) C (off := 415) (tgt := 447) dL_law_32 (by rw [c107]; decide) (by rw [c107]; decide) (by rw [c107]; decide) (by decide) ?_
                                  refine kj_ald1 (pc := 447) C dL_law_447 ?_
                                  refine kj_ald0 (pc := 448) C dL_law_448 ?_
                                  refine kj_ild3 (pc := 449) C dL_law_449 ?_
                                  refine kj_iconst (pc := 450) C (v := 1) dL_law_450 ci_1 ?_
                                  refine kj_iadd (pc := 451) C dL_law_451 ?_
                                  obtain ⟨x100, ex100, h⟩ := of_lt h
                                  refine kj_ni ex100 ?_
                                  obtain ⟨c101, h⟩ := of_gd h
                                  refine kj_sld (pc := 452) C hX hbl hbA c101 dL_law_452 ?_
                                  obtain ⟨q102, eq102, h⟩ := of_bind h
                                  refine kj_callV1 (pc := 453) C (ct_X9_notes eq102) (Nat.le_of_ble_eq_true rfl) mi_X9_notes ml_L_68 rc_20 rfl rfl ar1 (Nat.le_of_ble_eq_true rfl) dL_law_453 ?_
                                  refine kj_ald2 (pc := 456) C dL_law_456 ?_
                                  refine kj_ald0 (pc := 457) C dL_law_457 ?_
                                  refine kj_ild3 (pc := 458) C dL_law_458 ?_
                                  refine kj_iconst (pc := 459) C (v := 1) dL_law_459 ci_1 ?_
                                  refine kj_iadd (pc := 460) C dL_law_460 ?_
                                  obtain ⟨x103, ex103, h⟩ := of_lt h
                                  refine kj_ni ex103 ?_
                                  obtain ⟨c104, h⟩ := of_gd h
                                  refine kj_sld (pc := 461) C hX hbl hbA c104 dL_law_461 ?_
                                  obtain ⟨q105, eq105, h⟩ := of_bind h
                                  refine kj_callV1 (pc := 462) C (ct_X10_notes eq105) (Nat.le_of_ble_eq_true rfl) mi_X10_notes ml_L_71 rc_27 rfl rfl ar1 (Nat.le_of_ble_eq_true rfl) dL_law_462 ?_
                                  refine kj_icmp_eq (pc := 465) C dL_law_465 (tgt := 1031) (by decide) (fun c106 => ?_) (fun c106 => ?_)
                                  · have h := of_pos c106 h
                                    exact k_L_law_1031 C hr hR hX hbl hbA hge ht ih _ _ h
                                  · have h := of_neg c106 h
                                    refine kj_iconst (pc := 468) C (v := 0) dL_law_468 ci_0 ?_
                                    cases h
                                    exact absurd (show (0 : Int32) = 1 from ht) (by decide)
                                · have h := of_neg c107 h
                                  rcases Classical.em (x3 = 14) with c115 | c115
                                  · have h := of_pos c115 h
                                    refine kj_tsIn (pc := 32) C (off := 438) (tgt := 470) dL_law_32 (by rw [c115]; decide) (by rw [c115]; decide) (by rw [c115]; decide) (by decide) ?_
                                    refine kj_ald1 (pc := 470) C dL_law_470 ?_
                                    refine kj_ald0 (pc := 471) C dL_law_471 ?_
                                    refine kj_ild3 (pc := 472) C dL_law_472 ?_
                                    refine kj_iconst (pc := 473) C (v := 1) dL_law_473 ci_1 ?_
                                    refine kj_iadd (pc := 474) C dL_law_474 ?_
                                    obtain ⟨x108, ex108, h⟩ := of_lt h
                                    refine kj_ni ex108 ?_
                                    obtain ⟨c109, h⟩ := of_gd h
                                    refine kj_sld (pc := 475) C hX hbl hbA c109 dL_law_475 ?_
                                    obtain ⟨q110, eq110, h⟩ := of_bind h
                                    refine kj_callV1 (pc := 476) C (ct_X9_round eq110) (Nat.le_of_ble_eq_true rfl) mi_X9_round ml_L_72 rc_20 rfl rfl ar1 (Nat.le_of_ble_eq_true rfl) dL_law_476 ?_
                                    refine kj_ald2 (pc := 479) C dL_law_479 ?_
                                    refine kj_ald0 (pc := 480) C dL_law_480 ?_
                                    refine kj_ild3 (pc := 481) C dL_law_481 ?_
                                    refine kj_iconst (pc := 482) C (v := 1) dL_law_482 ci_1 ?_
                                    refine kj_iadd (pc := 483) C dL_law_483 ?_
                                    obtain ⟨x111, ex111, h⟩ := of_lt h
                                    refine kj_ni ex111 ?_
                                    obtain ⟨c112, h⟩ := of_gd h
                                    refine kj_sld (pc := 484) C hX hbl hbA c112 dL_law_484 ?_
                                    obtain ⟨q113, eq113, h⟩ := of_bind h
                                    refine kj_callV1 (pc := 485) C (ct_X10_round eq113) (Nat.le_of_ble_eq_true rfl) mi_X10_round ml_L_75 rc_27 rfl rfl ar1 (Nat.le_of_ble_eq_true rfl) dL_law_485 ?_
                                    refine kj_icmp_eq (pc := 488) C dL_law_488 (tgt := 1031) (by decide) (fun c114 => ?_) (fun c114 => ?_)
                                    · have h := of_pos c114 h
                                      exact k_L_law_1031 C hr hR hX hbl hbA hge ht ih _ _ h
                                    · have h := of_neg c114 h
                                      refine kj_iconst (pc := 491) C (v := 0) dL_law_491 ci_0 ?_
                                      cases h
                                      exact absurd (show (0 : Int32) = 1 from ht) (by decide)
                                  · have h := of_neg c115 h
                                    rcases Classical.em (x3 = 15) with c119 | c119
                                    · have h := of_pos c119 h
                                      refine kj_tsIn (pc := 32) C (off := 461) (tgt := 493) dL_law_32 (by rw [c119]; decide) (by rw [c119]; decide) (by rw [c119]; decide) (by decide) ?_
                                      refine kj_ald1 (pc := 493) C dL_law_493 ?_
                                      obtain ⟨q116, eq116, h⟩ := of_bind h
                                      refine kj_callV1 (pc := 494) C (ct_X9_unison eq116) (Nat.le_of_ble_eq_true rfl) mi_X9_unison ml_L_76 rc_20 rfl rfl ar0 (Nat.le_of_ble_eq_true rfl) dL_law_494 ?_
                                      refine kj_ald2 (pc := 497) C dL_law_497 ?_
                                      obtain ⟨q117, eq117, h⟩ := of_bind h
                                      refine kj_callV1 (pc := 498) C (ct_X10_unison eq117) (Nat.le_of_ble_eq_true rfl) mi_X10_unison ml_L_79 rc_27 rfl rfl ar0 (Nat.le_of_ble_eq_true rfl) dL_law_498 ?_
                                      refine kj_icmp_eq (pc := 501) C dL_law_501 (tgt := 1031) (by decide) (fun c118 => ?_) (fun c118 => ?_)
                                      · have h := of_pos c118 h
                                        exact k_L_law_1031 C hr hR hX hbl hbA hge ht ih _ _ h
                                      · have h := of_neg c118 h
                                        refine kj_iconst (pc := 504) C (v := 0) dL_law_504 ci_0 ?_
                                        cases h
                                        exact absurd (show (0 : Int32) = 1 from ht) (by decide)
                                    · have h := of_neg c119 h
                                      rcases Classical.em (x3 = 16) with c139 | c139
                                      · have h := of_pos c139 h
                                        refine kj_tsIn (pc := 32) C (off := 474) (tgt := 506) dL_law_32 (by rw [c139]; decide) (by rw [c139]; decide) (by rw [c139]; decide) (by decide) ?_
                                        refine kj_ald1 (pc := 506) C dL_law_506 ?_
                                        refine kj_ald0 (pc := 507) C dL_law_507 ?_
                                        refine kj_ild3 (pc := 508) C dL_law_508 ?_
                                        refine kj_iconst (pc := 509) C (v := 1) dL_law_509 ci_1 ?_
                                        refine kj_iadd (pc := 510) C dL_law_510 ?_
                                        obtain ⟨x120, ex120, h⟩ := of_lt h
                                        refine kj_ni ex120 ?_
                                        obtain ⟨c121, h⟩ := of_gd h
                                        refine kj_sld (pc := 511) C hX hbl hbA c121 dL_law_511 ?_
                                        refine kj_ald0 (pc := 512) C dL_law_512 ?_
                                        refine kj_ild3 (pc := 513) C dL_law_513 ?_
                                        refine kj_iconst (pc := 514) C (v := 2) dL_law_514 ci_2 ?_
                                        refine kj_iadd (pc := 515) C dL_law_515 ?_
                                        obtain ⟨x122, ex122, h⟩ := of_lt h
                                        refine kj_ni ex122 ?_
                                        obtain ⟨c123, h⟩ := of_gd h
                                        refine kj_sld (pc := 516) C hX hbl hbA c123 dL_law_516 ?_
                                        refine kj_ald0 (pc := 517) C dL_law_517 ?_
                                        refine kj_ild3 (pc := 518) C dL_law_518 ?_
                                        refine kj_iconst (pc := 519) C (v := 3) dL_law_519 ci_3 ?_
                                        refine kj_iadd (pc := 520) C dL_law_520 ?_
                                        obtain ⟨x124, ex124, h⟩ := of_lt h
                                        refine kj_ni ex124 ?_
                                        obtain ⟨c125, h⟩ := of_gd h
                                        refine kj_sld (pc := 521) C hX hbl hbA c125 dL_law_521 ?_
                                        refine kj_ald0 (pc := 522) C dL_law_522 ?_
                                        refine kj_ild3 (pc := 523) C dL_law_523 ?_
                                        refine kj_iconst (pc := 524) C (v := 4) dL_law_524 ci_4 ?_
                                        refine kj_iadd (pc := 525) C dL_law_525 ?_
                                        obtain ⟨x126, ex126, h⟩ := of_lt h
                                        refine kj_ni ex126 ?_
                                        obtain ⟨c127, h⟩ := of_gd h
                                        refine kj_sld (pc := 526) C hX hbl hbA c127 dL_law_526 ?_
                                        obtain ⟨q128, eq128, h⟩ := of_bind h
                                        refine kj_callV1 (pc := 527) C (ct_X9_gets eq128) (Nat.le_of_ble_eq_true rfl) mi_X9_gets ml_L_80 rc_20 rfl rfl ar4 (Nat.le_of_ble_eq_true rfl) dL_law_527 ?_
                                        refine kj_ald2 (pc := 530) C dL_law_530 ?_
                                        refine kj_ald0 (pc := 531) C dL_law_531 ?_
                                        refine kj_ild3 (pc := 532) C dL_law_532 ?_
                                        refine kj_iconst (pc := 533) C (v := 1) dL_law_533 ci_1 ?_
                                        refine kj_iadd (pc := 534) C dL_law_534 ?_
                                        obtain ⟨x129, ex129, h⟩ := of_lt h
                                        refine kj_ni ex129 ?_
                                        obtain ⟨c130, h⟩ := of_gd h
                                        refine kj_sld (pc := 535) C hX hbl hbA c130 dL_law_535 ?_
                                        refine kj_ald0 (pc := 536) C dL_law_536 ?_
                                        refine kj_ild3 (pc := 537) C dL_law_537 ?_
                                        refine kj_iconst (pc := 538) C (v := 2) dL_law_538 ci_2 ?_
                                        refine kj_iadd (pc := 539) C dL_law_539 ?_
                                        obtain ⟨x131, ex131, h⟩ := of_lt h
                                        refine kj_ni ex131 ?_
                                        obtain ⟨c132, h⟩ := of_gd h
                                        refine kj_sld (pc := 540) C hX hbl hbA c132 dL_law_540 ?_
                                        refine kj_ald0 (pc := 541) C dL_law_541 ?_
                                        refine kj_ild3 (pc := 542) C dL_law_542 ?_
                                        refine kj_iconst (pc := 543) C (v := 3) dL_law_543 ci_3 ?_
                                        refine kj_iadd (pc := 544) C dL_law_544 ?_
                                        obtain ⟨x133, ex133, h⟩ := of_lt h
                                        refine kj_ni ex133 ?_
                                        obtain ⟨c134, h⟩ := of_gd h
                                        refine kj_sld (pc := 545) C hX hbl hbA c134 dL_law_545 ?_
                                        refine kj_ald0 (pc := 546) C dL_law_546 ?_
                                        refine kj_ild3 (pc := 547) C dL_law_547 ?_
                                        refine kj_iconst (pc := 548) C (v := 4) dL_law_548 ci_4 ?_
                                        refine kj_iadd (pc := 549) C dL_law_549 ?_
                                        obtain ⟨x135, ex135, h⟩ := of_lt h
                                        refine kj_ni ex135 ?_
                                        obtain ⟨c136, h⟩ := of_gd h
                                        refine kj_sld (pc := 550) C hX hbl hbA c136 dL_law_550 ?_
                                        obtain ⟨q137, eq137, h⟩ := of_bind h
                                        refine kj_callV1 (pc := 551) C (ct_X10_gets eq137) (Nat.le_of_ble_eq_true rfl) mi_X10_gets ml_L_84 rc_27 rfl rfl ar4 (Nat.le_of_ble_eq_true rfl) dL_law_551 ?_
                                        refine kj_icmp_eq (pc := 554) C dL_law_554 (tgt := 1031) (by decide) (fun c138 => ?_) (fun c138 => ?_)
                                        · have h := of_pos c138 h
                                          exact k_L_law_1031 C hr hR hX hbl hbA hge ht ih _ _ h
                                        · have h := of_neg c138 h
                                          refine kj_iconst (pc := 557) C (v := 0) dL_law_557 ci_0 ?_
                                          cases h
                                          exact absurd (show (0 : Int32) = 1 from ht) (by decide)
                                      · have h := of_neg c139 h
                                        rcases Classical.em (x3 = 17) with c151 | c151
                                        · have h := of_pos c151 h
                                          refine kj_tsIn (pc := 32) C (off := 527) (tgt := 559) dL_law_32 (by rw [c151]; decide) (by rw [c151]; decide) (by rw [c151]; decide) (by decide) ?_
                                          refine kj_ald1 (pc := 559) C dL_law_559 ?_
                                          refine kj_ald0 (pc := 560) C dL_law_560 ?_
                                          refine kj_ild3 (pc := 561) C dL_law_561 ?_
                                          refine kj_iconst (pc := 562) C (v := 1) dL_law_562 ci_1 ?_
                                          refine kj_iadd (pc := 563) C dL_law_563 ?_
                                          obtain ⟨x140, ex140, h⟩ := of_lt h
                                          refine kj_ni ex140 ?_
                                          obtain ⟨c141, h⟩ := of_gd h
                                          refine kj_sld (pc := 564) C hX hbl hbA c141 dL_law_564 ?_
                                          refine kj_ald0 (pc := 565) C dL_law_565 ?_
                                          refine kj_ild3 (pc := 566) C dL_law_566 ?_
                                          refine kj_iconst (pc := 567) C (v := 2) dL_law_567 ci_2 ?_
                                          refine kj_iadd (pc := 568) C dL_law_568 ?_
                                          obtain ⟨x142, ex142, h⟩ := of_lt h
                                          refine kj_ni ex142 ?_
                                          obtain ⟨c143, h⟩ := of_gd h
                                          refine kj_sld (pc := 569) C hX hbl hbA c143 dL_law_569 ?_
                                          obtain ⟨q144, eq144, h⟩ := of_bind h
                                          refine kj_callV1 (pc := 570) C (ct_X9_best eq144) (Nat.le_of_ble_eq_true rfl) mi_X9_best ml_L_85 rc_20 rfl rfl ar2 (Nat.le_of_ble_eq_true rfl) dL_law_570 ?_
                                          refine kj_ald2 (pc := 573) C dL_law_573 ?_
                                          refine kj_ald0 (pc := 574) C dL_law_574 ?_
                                          refine kj_ild3 (pc := 575) C dL_law_575 ?_
                                          refine kj_iconst (pc := 576) C (v := 1) dL_law_576 ci_1 ?_
                                          refine kj_iadd (pc := 577) C dL_law_577 ?_
                                          obtain ⟨x145, ex145, h⟩ := of_lt h
                                          refine kj_ni ex145 ?_
                                          obtain ⟨c146, h⟩ := of_gd h
                                          refine kj_sld (pc := 578) C hX hbl hbA c146 dL_law_578 ?_
                                          refine kj_ald0 (pc := 579) C dL_law_579 ?_
                                          refine kj_ild3 (pc := 580) C dL_law_580 ?_
                                          refine kj_iconst (pc := 581) C (v := 2) dL_law_581 ci_2 ?_
                                          refine kj_iadd (pc := 582) C dL_law_582 ?_
                                          obtain ⟨x147, ex147, h⟩ := of_lt h
                                          refine kj_ni ex147 ?_
                                          obtain ⟨c148, h⟩ := of_gd h
                                          refine kj_sld (pc := 583) C hX hbl hbA c148 dL_law_583 ?_
                                          obtain ⟨q149, eq149, h⟩ := of_bind h
                                          refine kj_callV1 (pc := 584) C (ct_X10_best eq149) (Nat.le_of_ble_eq_true rfl) mi_X10_best ml_L_88 rc_27 rfl rfl ar2 (Nat.le_of_ble_eq_true rfl) dL_law_584 ?_
                                          refine kj_icmp_eq (pc := 587) C dL_law_587 (tgt := 1031) (by decide) (fun c150 => ?_) (fun c150 => ?_)
                                          · have h := of_pos c150 h
                                            exact k_L_law_1031 C hr hR hX hbl hbA hge ht ih _ _ h
                                          · have h := of_neg c150 h
                                            refine kj_iconst (pc := 590) C (v := 0) dL_law_590 ci_0 ?_
                                            cases h
                                            exact absurd (show (0 : Int32) = 1 from ht) (by decide)
                                        · have h := of_neg c151 h
                                          rcases Classical.em (x3 = 18) with c167 | c167
                                          · have h := of_pos c167 h
                                            refine kj_tsIn (pc := 32) C (off := 560) (tgt := 592) dL_law_32 (by rw [c167]; decide) (by rw [c167]; decide) (by rw [c167]; decide) (by decide) ?_
                                            refine kj_ald1 (pc := 592) C dL_law_592 ?_
                                            refine kj_ald0 (pc := 593) C dL_law_593 ?_
                                            refine kj_ild3 (pc := 594) C dL_law_594 ?_
                                            refine kj_iconst (pc := 595) C (v := 1) dL_law_595 ci_1 ?_
                                            refine kj_iadd (pc := 596) C dL_law_596 ?_
                                            obtain ⟨x152, ex152, h⟩ := of_lt h
                                            refine kj_ni ex152 ?_
                                            obtain ⟨c153, h⟩ := of_gd h
                                            refine kj_sld (pc := 597) C hX hbl hbA c153 dL_law_597 ?_
                                            refine kj_ald0 (pc := 598) C dL_law_598 ?_
                                            refine kj_ild3 (pc := 599) C dL_law_599 ?_
                                            refine kj_iconst (pc := 600) C (v := 2) dL_law_600 ci_2 ?_
                                            refine kj_iadd (pc := 601) C dL_law_601 ?_
                                            obtain ⟨x154, ex154, h⟩ := of_lt h
                                            refine kj_ni ex154 ?_
                                            obtain ⟨c155, h⟩ := of_gd h
                                            refine kj_sld (pc := 602) C hX hbl hbA c155 dL_law_602 ?_
                                            refine kj_i2l (pc := 603) C dL_law_603 ?_
                                            refine kj_bipush (pc := 604) C (v := 32) dL_law_604 cb_32 ?_
                                            refine kj_lshl (pc := 606) C dL_law_606 ?_
                                            refine kj_ald0 (pc := 607) C dL_law_607 ?_
                                            refine kj_ild3 (pc := 608) C dL_law_608 ?_
                                            refine kj_iconst (pc := 609) C (v := 3) dL_law_609 ci_3 ?_
                                            refine kj_iadd (pc := 610) C dL_law_610 ?_
                                            obtain ⟨x156, ex156, h⟩ := of_lt h
                                            refine kj_ni ex156 ?_
                                            obtain ⟨c157, h⟩ := of_gd h
                                            refine kj_sld (pc := 611) C hX hbl hbA c157 dL_law_611 ?_
                                            refine kj_i2l (pc := 612) C dL_law_612 ?_
                                            refine kj_ldc2 (pc := 613) C cn_L_89 dL_law_613 ?_
                                            refine kj_land (pc := 616) C dL_law_616 ?_
                                            refine kj_lor (pc := 617) C dL_law_617 ?_
                                            obtain ⟨q158, eq158, h⟩ := of_bind h
                                            refine kj_callV1 (pc := 618) C (ct_X9_judge eq158) (Nat.le_of_ble_eq_true rfl) mi_X9_judge ml_L_91 rc_20 rfl rfl ar2 (Nat.le_of_ble_eq_true rfl) dL_law_618 ?_
                                            refine kj_ald2 (pc := 621) C dL_law_621 ?_
                                            refine kj_ald0 (pc := 622) C dL_law_622 ?_
                                            refine kj_ild3 (pc := 623) C dL_law_623 ?_
                                            refine kj_iconst (pc := 624) C (v := 1) dL_law_624 ci_1 ?_
                                            refine kj_iadd (pc := 625) C dL_law_625 ?_
                                            obtain ⟨x159, ex159, h⟩ := of_lt h
                                            refine kj_ni ex159 ?_
                                            obtain ⟨c160, h⟩ := of_gd h
                                            refine kj_sld (pc := 626) C hX hbl hbA c160 dL_law_626 ?_
                                            refine kj_ald0 (pc := 627) C dL_law_627 ?_
                                            refine kj_ild3 (pc := 628) C dL_law_628 ?_
                                            refine kj_iconst (pc := 629) C (v := 2) dL_law_629 ci_2 ?_
                                            refine kj_iadd (pc := 630) C dL_law_630 ?_
                                            obtain ⟨x161, ex161, h⟩ := of_lt h
                                            refine kj_ni ex161 ?_
                                            obtain ⟨c162, h⟩ := of_gd h
                                            refine kj_sld (pc := 631) C hX hbl hbA c162 dL_law_631 ?_
                                            refine kj_i2l (pc := 632) C dL_law_632 ?_
                                            refine kj_bipush (pc := 633) C (v := 32) dL_law_633 cb_32 ?_
                                            refine kj_lshl (pc := 635) C dL_law_635 ?_
                                            refine kj_ald0 (pc := 636) C dL_law_636 ?_
                                            refine kj_ild3 (pc := 637) C dL_law_637 ?_
                                            refine kj_iconst (pc := 638) C (v := 3) dL_law_638 ci_3 ?_
                                            refine kj_iadd (pc := 639) C dL_law_639 ?_
                                            obtain ⟨x163, ex163, h⟩ := of_lt h
                                            refine kj_ni ex163 ?_
                                            obtain ⟨c164, h⟩ := of_gd h
                                            refine kj_sld (pc := 640) C hX hbl hbA c164 dL_law_640 ?_
                                            refine kj_i2l (pc := 641) C dL_law_641 ?_
                                            refine kj_ldc2 (pc := 642) C cn_L_89 dL_law_642 ?_
                                            refine kj_land (pc := 645) C dL_law_645 ?_
                                            refine kj_lor (pc := 646) C dL_law_646 ?_
                                            obtain ⟨q165, eq165, h⟩ := of_bind h
                                            refine kj_callV1 (pc := 647) C (ct_X10_judge eq165) (Nat.le_of_ble_eq_true rfl) mi_X10_judge ml_L_95 rc_27 rfl rfl ar2 (Nat.le_of_ble_eq_true rfl) dL_law_647 ?_
                                            refine kj_icmp_eq (pc := 650) C dL_law_650 (tgt := 1031) (by decide) (fun c166 => ?_) (fun c166 => ?_)
                                            · have h := of_pos c166 h
                                              exact k_L_law_1031 C hr hR hX hbl hbA hge ht ih _ _ h
                                            · have h := of_neg c166 h
                                              refine kj_iconst (pc := 653) C (v := 0) dL_law_653 ci_0 ?_
                                              cases h
                                              exact absurd (show (0 : Int32) = 1 from ht) (by decide)
                                          · have h := of_neg c167 h
                                            rcases Classical.em (x3 = 19) with c183 | c183
                                            · have h := of_pos c183 h
                                              refine kj_tsIn (pc := 32) C (off := 623) (tgt := 655) dL_law_32 (by rw [c183]; decide) (by rw [c183]; decide) (by rw [c183]; decide) (by decide) ?_
                                              refine kj_ald1 (pc := 655) C dL_law_655 ?_
                                              refine kj_ald0 (pc := 656) C dL_law_656 ?_
                                              refine kj_ild3 (pc := 657) C dL_law_657 ?_
                                              refine kj_iconst (pc := 658) C (v := 1) dL_law_658 ci_1 ?_
                                              refine kj_iadd (pc := 659) C dL_law_659 ?_
                                              obtain ⟨x168, ex168, h⟩ := of_lt h
                                              refine kj_ni ex168 ?_
                                              obtain ⟨c169, h⟩ := of_gd h
                                              refine kj_sld (pc := 660) C hX hbl hbA c169 dL_law_660 ?_
                                              refine kj_ald0 (pc := 661) C dL_law_661 ?_
                                              refine kj_ild3 (pc := 662) C dL_law_662 ?_
                                              refine kj_iconst (pc := 663) C (v := 2) dL_law_663 ci_2 ?_
                                              refine kj_iadd (pc := 664) C dL_law_664 ?_
                                              obtain ⟨x170, ex170, h⟩ := of_lt h
                                              refine kj_ni ex170 ?_
                                              obtain ⟨c171, h⟩ := of_gd h
                                              refine kj_sld (pc := 665) C hX hbl hbA c171 dL_law_665 ?_
                                              refine kj_ald0 (pc := 666) C dL_law_666 ?_
                                              refine kj_ild3 (pc := 667) C dL_law_667 ?_
                                              refine kj_iconst (pc := 668) C (v := 3) dL_law_668 ci_3 ?_
                                              refine kj_iadd (pc := 669) C dL_law_669 ?_
                                              obtain ⟨x172, ex172, h⟩ := of_lt h
                                              refine kj_ni ex172 ?_
                                              obtain ⟨c173, h⟩ := of_gd h
                                              refine kj_sld (pc := 670) C hX hbl hbA c173 dL_law_670 ?_
                                              obtain ⟨q174, eq174, h⟩ := of_bind h
                                              refine kj_callV1 (pc := 671) C (ct_X9_hear eq174) (Nat.le_of_ble_eq_true rfl) mi_X9_hear ml_L_96 rc_20 rfl rfl ar3 (Nat.le_of_ble_eq_true rfl) dL_law_671 ?_
                                              refine kj_ald2 (pc := 674) C dL_law_674 ?_
                                              refine kj_ald0 (pc := 675) C dL_law_675 ?_
                                              refine kj_ild3 (pc := 676) C dL_law_676 ?_
                                              refine kj_iconst (pc := 677) C (v := 1) dL_law_677 ci_1 ?_
                                              refine kj_iadd (pc := 678) C dL_law_678 ?_
                                              obtain ⟨x175, ex175, h⟩ := of_lt h
                                              refine kj_ni ex175 ?_
                                              obtain ⟨c176, h⟩ := of_gd h
                                              refine kj_sld (pc := 679) C hX hbl hbA c176 dL_law_679 ?_
                                              refine kj_ald0 (pc := 680) C dL_law_680 ?_
                                              refine kj_ild3 (pc := 681) C dL_law_681 ?_
                                              refine kj_iconst (pc := 682) C (v := 2) dL_law_682 ci_2 ?_
                                              refine kj_iadd (pc := 683) C dL_law_683 ?_
                                              obtain ⟨x177, ex177, h⟩ := of_lt h
                                              refine kj_ni ex177 ?_
                                              obtain ⟨c178, h⟩ := of_gd h
                                              refine kj_sld (pc := 684) C hX hbl hbA c178 dL_law_684 ?_
                                              refine kj_ald0 (pc := 685) C dL_law_685 ?_
                                              refine kj_ild3 (pc := 686) C dL_law_686 ?_
                                              refine kj_iconst (pc := 687) C (v := 3) dL_law_687 ci_3 ?_
                                              refine kj_iadd (pc := 688) C dL_law_688 ?_
                                              obtain ⟨x179, ex179, h⟩ := of_lt h
                                              refine kj_ni ex179 ?_
                                              obtain ⟨c180, h⟩ := of_gd h
                                              refine kj_sld (pc := 689) C hX hbl hbA c180 dL_law_689 ?_
                                              obtain ⟨q181, eq181, h⟩ := of_bind h
                                              refine kj_callV1 (pc := 690) C (ct_X10_hear eq181) (Nat.le_of_ble_eq_true rfl) mi_X10_hear ml_L_100 rc_27 rfl rfl ar3 (Nat.le_of_ble_eq_true rfl) dL_law_690 ?_
                                              refine kj_icmp_eq (pc := 693) C dL_law_693 (tgt := 1031) (by decide) (fun c182 => ?_) (fun c182 => ?_)
                                              · have h := of_pos c182 h
                                                exact k_L_law_1031 C hr hR hX hbl hbA hge ht ih _ _ h
                                              · have h := of_neg c182 h
                                                refine kj_iconst (pc := 696) C (v := 0) dL_law_696 ci_0 ?_
                                                cases h
                                                exact absurd (show (0 : Int32) = 1 from ht) (by decide)
                                            · have h := of_neg c183 h
                                              rcases Classical.em (x3 = 20) with c187 | c187
                                              · have h := of_pos c187 h
                                                refine kj_tsIn (pc := 32) C (off := 666) (tgt := 698) dL_law_32 (by rw [c187]; decide) (by rw [c187]; decide) (by rw [c187]; decide) (by decide) ?_
                                                refine kj_ald1 (pc := 698) C dL_law_698 ?_
                                                obtain ⟨q184, eq184, h⟩ := of_bind h
                                                refine kj_callV1 (pc := 699) C (ct_X9_unhear eq184) (Nat.le_of_ble_eq_true rfl) mi_X9_unhear ml_L_101 rc_20 rfl rfl ar0 (Nat.le_of_ble_eq_true rfl) dL_law_699 ?_
                                                refine kj_ald2 (pc := 702) C dL_law_702 ?_
                                                obtain ⟨q185, eq185, h⟩ := of_bind h
                                                refine kj_callV1 (pc := 703) C (ct_X10_unhear eq185) (Nat.le_of_ble_eq_true rfl) mi_X10_unhear ml_L_104 rc_27 rfl rfl ar0 (Nat.le_of_ble_eq_true rfl) dL_law_703 ?_
                                                refine kj_icmp_eq (pc := 706) C dL_law_706 (tgt := 1031) (by decide) (fun c186 => ?_) (fun c186 => ?_)
                                                · have h := of_pos c186 h
                                                  exact k_L_law_1031 C hr hR hX hbl hbA hge ht ih _ _ h
                                                · have h := of_neg c186 h
                                                  refine kj_iconst (pc := 709) C (v := 0) dL_law_709 ci_0 ?_
                                                  cases h
                                                  exact absurd (show (0 : Int32) = 1 from ht) (by decide)
                                              · have h := of_neg c187 h
                                                rcases Classical.em (x3 = 21) with c195 | c195
                                                · have h := of_pos c195 h
                                                  refine kj_tsIn (pc := 32) C (off := 679) (tgt := 711) dL_law_32 (by rw [c195]; decide) (by rw [c195]; decide) (by rw [c195]; decide) (by decide) ?_
                                                  refine kj_ald1 (pc := 711) C dL_law_711 ?_
                                                  refine kj_ald0 (pc := 712) C dL_law_712 ?_
                                                  refine kj_ild3 (pc := 713) C dL_law_713 ?_
                                                  refine kj_iconst (pc := 714) C (v := 1) dL_law_714 ci_1 ?_
                                                  refine kj_iadd (pc := 715) C dL_law_715 ?_
                                                  obtain ⟨x188, ex188, h⟩ := of_lt h
                                                  refine kj_ni ex188 ?_
                                                  obtain ⟨c189, h⟩ := of_gd h
                                                  refine kj_sld (pc := 716) C hX hbl hbA c189 dL_law_716 ?_
                                                  obtain ⟨q190, eq190, h⟩ := of_bind h
                                                  refine kj_callV1 (pc := 717) C (ct_X9_had eq190) (Nat.le_of_ble_eq_true rfl) mi_X9_had ml_L_105 rc_20 rfl rfl ar1 (Nat.le_of_ble_eq_true rfl) dL_law_717 ?_
                                                  refine kj_ald2 (pc := 720) C dL_law_720 ?_
                                                  refine kj_ald0 (pc := 721) C dL_law_721 ?_
                                                  refine kj_ild3 (pc := 722) C dL_law_722 ?_
                                                  refine kj_iconst (pc := 723) C (v := 1) dL_law_723 ci_1 ?_
                                                  refine kj_iadd (pc := 724) C dL_law_724 ?_
                                                  obtain ⟨x191, ex191, h⟩ := of_lt h
                                                  refine kj_ni ex191 ?_
                                                  obtain ⟨c192, h⟩ := of_gd h
                                                  refine kj_sld (pc := 725) C hX hbl hbA c192 dL_law_725 ?_
                                                  obtain ⟨q193, eq193, h⟩ := of_bind h
                                                  refine kj_callV1 (pc := 726) C (ct_X10_had eq193) (Nat.le_of_ble_eq_true rfl) mi_X10_had ml_L_108 rc_27 rfl rfl ar1 (Nat.le_of_ble_eq_true rfl) dL_law_726 ?_
                                                  refine kj_icmp_eq (pc := 729) C dL_law_729 (tgt := 1031) (by decide) (fun c194 => ?_) (fun c194 => ?_)
                                                  · have h := of_pos c194 h
                                                    exact k_L_law_1031 C hr hR hX hbl hbA hge ht ih _ _ h
                                                  · have h := of_neg c194 h
                                                    refine kj_iconst (pc := 732) C (v := 0) dL_law_732 ci_0 ?_
                                                    cases h
                                                    exact absurd (show (0 : Int32) = 1 from ht) (by decide)
                                                · have h := of_neg c195 h
                                                  rcases Classical.em (x3 = 22) with c201 | c201
                                                  · have h := of_pos c201 h
                                                    refine kj_tsIn (pc := 32) C (off := 702) (tgt := 734) dL_law_32 (by rw [c201]; decide) (by rw [c201]; decide) (by rw [c201]; decide) (by decide) ?_
                                                    refine kj_ald1 (pc := 734) C dL_law_734 ?_
                                                    refine kj_ald0 (pc := 735) C dL_law_735 ?_
                                                    refine kj_ild3 (pc := 736) C dL_law_736 ?_
                                                    refine kj_iconst (pc := 737) C (v := 1) dL_law_737 ci_1 ?_
                                                    refine kj_iadd (pc := 738) C dL_law_738 ?_
                                                    obtain ⟨x196, ex196, h⟩ := of_lt h
                                                    refine kj_ni ex196 ?_
                                                    obtain ⟨c197, h⟩ := of_gd h
                                                    refine kj_sld (pc := 739) C hX hbl hbA c197 dL_law_739 ?_
                                                    refine kj_ald0 (pc := 740) C dL_law_740 ?_
                                                    refine kj_ild3 (pc := 741) C dL_law_741 ?_
                                                    refine kj_iconst (pc := 742) C (v := 2) dL_law_742 ci_2 ?_
                                                    refine kj_iadd (pc := 743) C dL_law_743 ?_
                                                    obtain ⟨x198, ex198, h⟩ := of_lt h
                                                    refine kj_ni ex198 ?_
                                                    obtain ⟨c199, h⟩ := of_gd h
                                                    refine kj_sld (pc := 744) C hX hbl hbA c199 dL_law_744 ?_
                                                    refine kj_if_eq (pc := 745) C dL_law_745 (tgt := 752) (by decide) (fun c200 => ?_) (fun c200 => ?_)
                                                    · have h := of_pos c200 h
                                                      refine kj_iconst (pc := 752) C (v := 0) dL_law_752 ci_0 ?_
                                                      exact k_L_law_753 C hr hR hX hbl hbA hge ht ih _ _ _ _ h
                                                    · have h := of_neg c200 h
                                                      refine kj_iconst (pc := 748) C (v := 1) dL_law_748 ci_1 ?_
                                                      refine kj_goto (pc := 749) C dL_law_749 (tgt := 753) (by decide) ?_
                                                      exact k_L_law_753 C hr hR hX hbl hbA hge ht ih _ _ _ _ h
                                                  · have h := of_neg c201 h
                                                    rcases Classical.em (x3 = 23) with c217 | c217
                                                    · have h := of_pos c217 h
                                                      refine kj_tsIn (pc := 32) C (off := 751) (tgt := 783) dL_law_32 (by rw [c217]; decide) (by rw [c217]; decide) (by rw [c217]; decide) (by decide) ?_
                                                      refine kj_ald1 (pc := 783) C dL_law_783 ?_
                                                      refine kj_ald0 (pc := 784) C dL_law_784 ?_
                                                      refine kj_ild3 (pc := 785) C dL_law_785 ?_
                                                      refine kj_iconst (pc := 786) C (v := 1) dL_law_786 ci_1 ?_
                                                      refine kj_iadd (pc := 787) C dL_law_787 ?_
                                                      obtain ⟨x202, ex202, h⟩ := of_lt h
                                                      refine kj_ni ex202 ?_
                                                      obtain ⟨c203, h⟩ := of_gd h
                                                      refine kj_sld (pc := 788) C hX hbl hbA c203 dL_law_788 ?_
                                                      refine kj_ald0 (pc := 789) C dL_law_789 ?_
                                                      refine kj_ild3 (pc := 790) C dL_law_790 ?_
                                                      refine kj_iconst (pc := 791) C (v := 2) dL_law_791 ci_2 ?_
                                                      refine kj_iadd (pc := 792) C dL_law_792 ?_
                                                      obtain ⟨x204, ex204, h⟩ := of_lt h
                                                      refine kj_ni ex204 ?_
                                                      obtain ⟨c205, h⟩ := of_gd h
                                                      refine kj_sld (pc := 793) C hX hbl hbA c205 dL_law_793 ?_
                                                      refine kj_ald0 (pc := 794) C dL_law_794 ?_
                                                      refine kj_ild3 (pc := 795) C dL_law_795 ?_
                                                      refine kj_iconst (pc := 796) C (v := 3) dL_law_796 ci_3 ?_
                                                      refine kj_iadd (pc := 797) C dL_law_797 ?_
                                                      obtain ⟨x206, ex206, h⟩ := of_lt h
                                                      refine kj_ni ex206 ?_
                                                      obtain ⟨c207, h⟩ := of_gd h
                                                      refine kj_sld (pc := 798) C hX hbl hbA c207 dL_law_798 ?_
                                                      obtain ⟨q208, eq208, h⟩ := of_bind h
                                                      refine kj_callV1 (pc := 799) C (ct_X9_rests eq208) (Nat.le_of_ble_eq_true rfl) mi_X9_rests ml_L_114 rc_20 rfl rfl ar3 (Nat.le_of_ble_eq_true rfl) dL_law_799 ?_
                                                      refine kj_ald2 (pc := 802) C dL_law_802 ?_
                                                      refine kj_ald0 (pc := 803) C dL_law_803 ?_
                                                      refine kj_ild3 (pc := 804) C dL_law_804 ?_
                                                      refine kj_iconst (pc := 805) C (v := 1) dL_law_805 ci_1 ?_
                                                      refine kj_iadd (pc := 806) C dL_law_806 ?_
                                                      obtain ⟨x209, ex209, h⟩ := of_lt h
                                                      refine kj_ni ex209 ?_
                                                      obtain ⟨c210, h⟩ := of_gd h
                                                      refine kj_sld (pc := 807) C hX hbl hbA c210 dL_law_807 ?_
                                                      refine kj_ald0 (pc := 808) C dL_law_808 ?_
                                                      refine kj_ild3 (pc := 809) C dL_law_809 ?_
                                                      refine kj_iconst (pc := 810) C (v := 2) dL_law_810 ci_2 ?_
                                                      refine kj_iadd (pc := 811) C dL_law_811 ?_
                                                      obtain ⟨x211, ex211, h⟩ := of_lt h
                                                      refine kj_ni ex211 ?_
                                                      obtain ⟨c212, h⟩ := of_gd h
                                                      refine kj_sld (pc := 812) C hX hbl hbA c212 dL_law_812 ?_
                                                      refine kj_ald0 (pc := 813) C dL_law_813 ?_
                                                      refine kj_ild3 (pc := 814) C dL_law_814 ?_
                                                      refine kj_iconst (pc := 815) C (v := 3) dL_law_815 ci_3 ?_
                                                      refine kj_iadd (pc := 816) C dL_law_816 ?_
                                                      obtain ⟨x213, ex213, h⟩ := of_lt h
                                                      refine kj_ni ex213 ?_
                                                      obtain ⟨c214, h⟩ := of_gd h
                                                      refine kj_sld (pc := 817) C hX hbl hbA c214 dL_law_817 ?_
                                                      obtain ⟨q215, eq215, h⟩ := of_bind h
                                                      refine kj_callV1 (pc := 818) C (ct_X10_rests eq215) (Nat.le_of_ble_eq_true rfl) mi_X10_rests ml_L_117 rc_27 rfl rfl ar3 (Nat.le_of_ble_eq_true rfl) dL_law_818 ?_
                                                      refine kj_icmp_eq (pc := 821) C dL_law_821 (tgt := 1031) (by decide) (fun c216 => ?_) (fun c216 => ?_)
                                                      · have h := of_pos c216 h
                                                        exact k_L_law_1031 C hr hR hX hbl hbA hge ht ih _ _ h
                                                      · have h := of_neg c216 h
                                                        refine kj_iconst (pc := 824) C (v := 0) dL_law_824 ci_0 ?_
                                                        cases h
                                                        exact absurd (show (0 : Int32) = 1 from ht) (by decide)
                                                    · have h := of_neg c217 h
                                                      rcases Classical.em (x3 = 24) with c225 | c225
                                                      · have h := of_pos c225 h
                                                        refine kj_tsIn (pc := 32) C (off := 794) (tgt := 826) dL_law_32 (by rw [c225]; decide) (by rw [c225]; decide) (by rw [c225]; decide) (by decide) ?_
                                                        refine kj_ald1 (pc := 826) C dL_law_826 ?_
                                                        refine kj_ald0 (pc := 827) C dL_law_827 ?_
                                                        refine kj_ild3 (pc := 828) C dL_law_828 ?_
                                                        refine kj_iconst (pc := 829) C (v := 1) dL_law_829 ci_1 ?_
                                                        refine kj_iadd (pc := 830) C dL_law_830 ?_
                                                        obtain ⟨x218, ex218, h⟩ := of_lt h
                                                        refine kj_ni ex218 ?_
                                                        obtain ⟨c219, h⟩ := of_gd h
                                                        refine kj_sld (pc := 831) C hX hbl hbA c219 dL_law_831 ?_
                                                        refine kj_ald0 (pc := 832) C dL_law_832 ?_
                                                        refine kj_ild3 (pc := 833) C dL_law_833 ?_
                                                        refine kj_iconst (pc := 834) C (v := 2) dL_law_834 ci_2 ?_
                                                        refine kj_iadd (pc := 835) C dL_law_835 ?_
                                                        obtain ⟨x220, ex220, h⟩ := of_lt h
                                                        refine kj_ni ex220 ?_
                                                        obtain ⟨c221, h⟩ := of_gd h
                                                        refine kj_sld (pc := 836) C hX hbl hbA c221 dL_law_836 ?_
                                                        refine kj_ald0 (pc := 837) C dL_law_837 ?_
                                                        refine kj_ild3 (pc := 838) C dL_law_838 ?_
                                                        refine kj_iconst (pc := 839) C (v := 3) dL_law_839 ci_3 ?_
                                                        refine kj_iadd (pc := 840) C dL_law_840 ?_
                                                        obtain ⟨x222, ex222, h⟩ := of_lt h
                                                        refine kj_ni ex222 ?_
                                                        obtain ⟨c223, h⟩ := of_gd h
                                                        refine kj_sld (pc := 841) C hX hbl hbA c223 dL_law_841 ?_
                                                        refine kj_if_eq (pc := 842) C dL_law_842 (tgt := 849) (by decide) (fun c224 => ?_) (fun c224 => ?_)
                                                        · have h := of_pos c224 h
                                                          refine kj_iconst (pc := 849) C (v := 0) dL_law_849 ci_0 ?_
                                                          exact k_L_law_850 C hr hR hX hbl hbA hge ht ih _ _ _ _ _ h
                                                        · have h := of_neg c224 h
                                                          refine kj_iconst (pc := 845) C (v := 1) dL_law_845 ci_1 ?_
                                                          refine kj_goto (pc := 846) C dL_law_846 (tgt := 850) (by decide) ?_
                                                          exact k_L_law_850 C hr hR hX hbl hbA hge ht ih _ _ _ _ _ h
                                                      · have h := of_neg c225 h
                                                        rcases Classical.em (x3 = 25) with c237 | c237
                                                        · have h := of_pos c237 h
                                                          refine kj_tsIn (pc := 32) C (off := 853) (tgt := 885) dL_law_32 (by rw [c237]; decide) (by rw [c237]; decide) (by rw [c237]; decide) (by decide) ?_
                                                          refine kj_ald1 (pc := 885) C dL_law_885 ?_
                                                          refine kj_ald0 (pc := 886) C dL_law_886 ?_
                                                          refine kj_ild3 (pc := 887) C dL_law_887 ?_
                                                          refine kj_iconst (pc := 888) C (v := 1) dL_law_888 ci_1 ?_
                                                          refine kj_iadd (pc := 889) C dL_law_889 ?_
                                                          obtain ⟨x226, ex226, h⟩ := of_lt h
                                                          refine kj_ni ex226 ?_
                                                          obtain ⟨c227, h⟩ := of_gd h
                                                          refine kj_sld (pc := 890) C hX hbl hbA c227 dL_law_890 ?_
                                                          refine kj_i2l (pc := 891) C dL_law_891 ?_
                                                          refine kj_bipush (pc := 892) C (v := 32) dL_law_892 cb_32 ?_
                                                          refine kj_lshl (pc := 894) C dL_law_894 ?_
                                                          refine kj_ald0 (pc := 895) C dL_law_895 ?_
                                                          refine kj_ild3 (pc := 896) C dL_law_896 ?_
                                                          refine kj_iconst (pc := 897) C (v := 2) dL_law_897 ci_2 ?_
                                                          refine kj_iadd (pc := 898) C dL_law_898 ?_
                                                          obtain ⟨x228, ex228, h⟩ := of_lt h
                                                          refine kj_ni ex228 ?_
                                                          obtain ⟨c229, h⟩ := of_gd h
                                                          refine kj_sld (pc := 899) C hX hbl hbA c229 dL_law_899 ?_
                                                          refine kj_i2l (pc := 900) C dL_law_900 ?_
                                                          refine kj_ldc2 (pc := 901) C cn_L_89 dL_law_901 ?_
                                                          refine kj_land (pc := 904) C dL_law_904 ?_
                                                          refine kj_lor (pc := 905) C dL_law_905 ?_
                                                          obtain ⟨q230, eq230, h⟩ := of_bind h
                                                          refine kj_callV1 (pc := 906) C (ct_X9_seed eq230) (Nat.le_of_ble_eq_true rfl) mi_X9_seed ml_L_123 rc_20 rfl rfl ar1 (Nat.le_of_ble_eq_true rfl) dL_law_906 ?_
                                                          refine kj_ald2 (pc := 909) C dL_law_909 ?_
                                                          refine kj_ald0 (pc := 910) C dL_law_910 ?_
                                                          refine kj_ild3 (pc := 911) C dL_law_911 ?_
                                                          refine kj_iconst (pc := 912) C (v := 1) dL_law_912 ci_1 ?_
                                                          refine kj_iadd (pc := 913) C dL_law_913 ?_
                                                          obtain ⟨x231, ex231, h⟩ := of_lt h
                                                          refine kj_ni ex231 ?_
                                                          obtain ⟨c232, h⟩ := of_gd h
                                                          refine kj_sld (pc := 914) C hX hbl hbA c232 dL_law_914 ?_
                                                          refine kj_i2l (pc := 915) C dL_law_915 ?_
                                                          refine kj_bipush (pc := 916) C (v := 32) dL_law_916 cb_32 ?_
                                                          refine kj_lshl (pc := 918) C dL_law_918 ?_
                                                          refine kj_ald0 (pc := 919) C dL_law_919 ?_
                                                          refine kj_ild3 (pc := 920) C dL_law_920 ?_
                                                          refine kj_iconst (pc := 921) C (v := 2) dL_law_921 ci_2 ?_
                                                          refine kj_iadd (pc := 922) C dL_law_922 ?_
                                                          obtain ⟨x233, ex233, h⟩ := of_lt h
                                                          refine kj_ni ex233 ?_
                                                          obtain ⟨c234, h⟩ := of_gd h
                                                          refine kj_sld (pc := 923) C hX hbl hbA c234 dL_law_923 ?_
                                                          refine kj_i2l (pc := 924) C dL_law_924 ?_
                                                          refine kj_ldc2 (pc := 925) C cn_L_89 dL_law_925 ?_
                                                          refine kj_land (pc := 928) C dL_law_928 ?_
                                                          refine kj_lor (pc := 929) C dL_law_929 ?_
                                                          obtain ⟨q235, eq235, h⟩ := of_bind h
                                                          refine kj_callV1 (pc := 930) C (ct_X10_seed eq235) (Nat.le_of_ble_eq_true rfl) mi_X10_seed ml_L_127 rc_27 rfl rfl ar1 (Nat.le_of_ble_eq_true rfl) dL_law_930 ?_
                                                          refine kj_lcmp (pc := 933) C dL_law_933 ?_
                                                          refine kj_if_eq (pc := 934) C dL_law_934 (tgt := 1031) (by decide) (fun c236 => ?_) (fun c236 => ?_)
                                                          · have h := of_pos c236 h
                                                            exact k_L_law_1031 C hr hR hX hbl hbA hge ht ih _ _ h
                                                          · have h := of_neg c236 h
                                                            refine kj_iconst (pc := 937) C (v := 0) dL_law_937 ci_0 ?_
                                                            cases h
                                                            exact absurd (show (0 : Int32) = 1 from ht) (by decide)
                                                        · have h := of_neg c237 h
                                                          rcases Classical.em (x3 = 26) with c245 | c245
                                                          · have h := of_pos c245 h
                                                            refine kj_tsIn (pc := 32) C (off := 907) (tgt := 939) dL_law_32 (by rw [c245]; decide) (by rw [c245]; decide) (by rw [c245]; decide) (by decide) ?_
                                                            refine kj_ald1 (pc := 939) C dL_law_939 ?_
                                                            refine kj_ald0 (pc := 940) C dL_law_940 ?_
                                                            refine kj_ild3 (pc := 941) C dL_law_941 ?_
                                                            refine kj_iconst (pc := 942) C (v := 1) dL_law_942 ci_1 ?_
                                                            refine kj_iadd (pc := 943) C dL_law_943 ?_
                                                            obtain ⟨x238, ex238, h⟩ := of_lt h
                                                            refine kj_ni ex238 ?_
                                                            obtain ⟨c239, h⟩ := of_gd h
                                                            refine kj_sld (pc := 944) C hX hbl hbA c239 dL_law_944 ?_
                                                            obtain ⟨q240, eq240, h⟩ := of_bind h
                                                            refine kj_callV1 (pc := 945) C (ct_X9_years eq240) (Nat.le_of_ble_eq_true rfl) mi_X9_years ml_L_128 rc_20 rfl rfl ar1 (Nat.le_of_ble_eq_true rfl) dL_law_945 ?_
                                                            refine kj_ald2 (pc := 948) C dL_law_948 ?_
                                                            refine kj_ald0 (pc := 949) C dL_law_949 ?_
                                                            refine kj_ild3 (pc := 950) C dL_law_950 ?_
                                                            refine kj_iconst (pc := 951) C (v := 1) dL_law_951 ci_1 ?_
                                                            refine kj_iadd (pc := 952) C dL_law_952 ?_
                                                            obtain ⟨x241, ex241, h⟩ := of_lt h
                                                            refine kj_ni ex241 ?_
                                                            obtain ⟨c242, h⟩ := of_gd h
                                                            refine kj_sld (pc := 953) C hX hbl hbA c242 dL_law_953 ?_
                                                            obtain ⟨q243, eq243, h⟩ := of_bind h
                                                            refine kj_callV1 (pc := 954) C (ct_X10_years eq243) (Nat.le_of_ble_eq_true rfl) mi_X10_years ml_L_131 rc_27 rfl rfl ar1 (Nat.le_of_ble_eq_true rfl) dL_law_954 ?_
                                                            refine kj_icmp_eq (pc := 957) C dL_law_957 (tgt := 1031) (by decide) (fun c244 => ?_) (fun c244 => ?_)
                                                            · have h := of_pos c244 h
                                                              exact k_L_law_1031 C hr hR hX hbl hbA hge ht ih _ _ h
                                                            · have h := of_neg c244 h
                                                              refine kj_iconst (pc := 960) C (v := 0) dL_law_960 ci_0 ?_
                                                              cases h
                                                              exact absurd (show (0 : Int32) = 1 from ht) (by decide)
                                                          · have h := of_neg c245 h
                                                            rcases Classical.em (x3 = 27) with c253 | c253
                                                            · have h := of_pos c253 h
                                                              refine kj_tsIn (pc := 32) C (off := 930) (tgt := 962) dL_law_32 (by rw [c253]; decide) (by rw [c253]; decide) (by rw [c253]; decide) (by decide) ?_
                                                              refine kj_ald1 (pc := 962) C dL_law_962 ?_
                                                              refine kj_ald0 (pc := 963) C dL_law_963 ?_
                                                              refine kj_ild3 (pc := 964) C dL_law_964 ?_
                                                              refine kj_iconst (pc := 965) C (v := 1) dL_law_965 ci_1 ?_
                                                              refine kj_iadd (pc := 966) C dL_law_966 ?_
                                                              obtain ⟨x246, ex246, h⟩ := of_lt h
                                                              refine kj_ni ex246 ?_
                                                              obtain ⟨c247, h⟩ := of_gd h
                                                              refine kj_sld (pc := 967) C hX hbl hbA c247 dL_law_967 ?_
                                                              obtain ⟨q248, eq248, h⟩ := of_bind h
                                                              refine kj_callV1 (pc := 968) C (ct_X9_keep eq248) (Nat.le_of_ble_eq_true rfl) mi_X9_keep ml_L_132 rc_20 rfl rfl ar1 (Nat.le_of_ble_eq_true rfl) dL_law_968 ?_
                                                              refine kj_ald2 (pc := 971) C dL_law_971 ?_
                                                              refine kj_ald0 (pc := 972) C dL_law_972 ?_
                                                              refine kj_ild3 (pc := 973) C dL_law_973 ?_
                                                              refine kj_iconst (pc := 974) C (v := 1) dL_law_974 ci_1 ?_
                                                              refine kj_iadd (pc := 975) C dL_law_975 ?_
                                                              obtain ⟨x249, ex249, h⟩ := of_lt h
                                                              refine kj_ni ex249 ?_
                                                              obtain ⟨c250, h⟩ := of_gd h
                                                              refine kj_sld (pc := 976) C hX hbl hbA c250 dL_law_976 ?_
                                                              obtain ⟨q251, eq251, h⟩ := of_bind h
                                                              refine kj_callV1 (pc := 977) C (ct_X10_keep eq251) (Nat.le_of_ble_eq_true rfl) mi_X10_keep ml_L_135 rc_27 rfl rfl ar1 (Nat.le_of_ble_eq_true rfl) dL_law_977 ?_
                                                              refine kj_icmp_eq (pc := 980) C dL_law_980 (tgt := 1031) (by decide) (fun c252 => ?_) (fun c252 => ?_)
                                                              · have h := of_pos c252 h
                                                                exact k_L_law_1031 C hr hR hX hbl hbA hge ht ih _ _ h
                                                              · have h := of_neg c252 h
                                                                refine kj_iconst (pc := 983) C (v := 0) dL_law_983 ci_0 ?_
                                                                cases h
                                                                exact absurd (show (0 : Int32) = 1 from ht) (by decide)
                                                            · have h := of_neg c253 h
                                                              rcases Classical.em (x3 = 28) with c261 | c261
                                                              · have h := of_pos c261 h
                                                                refine kj_tsIn (pc := 32) C (off := 953) (tgt := 985) dL_law_32 (by rw [c261]; decide) (by rw [c261]; decide) (by rw [c261]; decide) (by decide) ?_
                                                                refine kj_ald1 (pc := 985) C dL_law_985 ?_
                                                                refine kj_ald0 (pc := 986) C dL_law_986 ?_
                                                                refine kj_ild3 (pc := 987) C dL_law_987 ?_
                                                                refine kj_iconst (pc := 988) C (v := 1) dL_law_988 ci_1 ?_
                                                                refine kj_iadd (pc := 989) C dL_law_989 ?_
                                                                obtain ⟨x254, ex254, h⟩ := of_lt h
                                                                refine kj_ni ex254 ?_
                                                                obtain ⟨c255, h⟩ := of_gd h
                                                                refine kj_sld (pc := 990) C hX hbl hbA c255 dL_law_990 ?_
                                                                obtain ⟨q256, eq256, h⟩ := of_bind h
                                                                refine kj_callV1 (pc := 991) C (ct_X9_again eq256) (Nat.le_of_ble_eq_true rfl) mi_X9_again ml_L_136 rc_20 rfl rfl ar1 (Nat.le_of_ble_eq_true rfl) dL_law_991 ?_
                                                                refine kj_ald2 (pc := 994) C dL_law_994 ?_
                                                                refine kj_ald0 (pc := 995) C dL_law_995 ?_
                                                                refine kj_ild3 (pc := 996) C dL_law_996 ?_
                                                                refine kj_iconst (pc := 997) C (v := 1) dL_law_997 ci_1 ?_
                                                                refine kj_iadd (pc := 998) C dL_law_998 ?_
                                                                obtain ⟨x257, ex257, h⟩ := of_lt h
                                                                refine kj_ni ex257 ?_
                                                                obtain ⟨c258, h⟩ := of_gd h
                                                                refine kj_sld (pc := 999) C hX hbl hbA c258 dL_law_999 ?_
                                                                obtain ⟨q259, eq259, h⟩ := of_bind h
                                                                refine kj_callV1 (pc := 1000) C (ct_X10_again eq259) (Nat.le_of_ble_eq_true rfl) mi_X10_again ml_L_139 rc_27 rfl rfl ar1 (Nat.le_of_ble_eq_true rfl) dL_law_1000 ?_
                                                                refine kj_icmp_eq (pc := 1003) C dL_law_1003 (tgt := 1031) (by decide) (fun c260 => ?_) (fun c260 => ?_)
                                                                · have h := of_pos c260 h
                                                                  exact k_L_law_1031 C hr hR hX hbl hbA hge ht ih _ _ h
                                                                · have h := of_neg c260 h
                                                                  refine kj_iconst (pc := 1006) C (v := 0) dL_law_1006 ci_0 ?_
                                                                  cases h
                                                                  exact absurd (show (0 : Int32) = 1 from ht) (by decide)
                                                              · have h := of_neg c261 h
                                                                rcases Classical.em (x3 = 29) with c269 | c269
                                                                · have h := of_pos c269 h
                                                                  refine kj_tsIn (pc := 32) C (off := 976) (tgt := 1008) dL_law_32 (by rw [c269]; decide) (by rw [c269]; decide) (by rw [c269]; decide) (by decide) ?_
                                                                  refine kj_ald1 (pc := 1008) C dL_law_1008 ?_
                                                                  refine kj_ald0 (pc := 1009) C dL_law_1009 ?_
                                                                  refine kj_ild3 (pc := 1010) C dL_law_1010 ?_
                                                                  refine kj_iconst (pc := 1011) C (v := 1) dL_law_1011 ci_1 ?_
                                                                  refine kj_iadd (pc := 1012) C dL_law_1012 ?_
                                                                  obtain ⟨x262, ex262, h⟩ := of_lt h
                                                                  refine kj_ni ex262 ?_
                                                                  obtain ⟨c263, h⟩ := of_gd h
                                                                  refine kj_sld (pc := 1013) C hX hbl hbA c263 dL_law_1013 ?_
                                                                  obtain ⟨q264, eq264, h⟩ := of_bind h
                                                                  refine kj_callV1 (pc := 1014) C (ct_X9_count eq264) (Nat.le_of_ble_eq_true rfl) mi_X9_count ml_L_140 rc_20 rfl rfl ar1 (Nat.le_of_ble_eq_true rfl) dL_law_1014 ?_
                                                                  refine kj_ald2 (pc := 1017) C dL_law_1017 ?_
                                                                  refine kj_ald0 (pc := 1018) C dL_law_1018 ?_
                                                                  refine kj_ild3 (pc := 1019) C dL_law_1019 ?_
                                                                  refine kj_iconst (pc := 1020) C (v := 1) dL_law_1020 ci_1 ?_
                                                                  refine kj_iadd (pc := 1021) C dL_law_1021 ?_
                                                                  obtain ⟨x265, ex265, h⟩ := of_lt h
                                                                  refine kj_ni ex265 ?_
                                                                  obtain ⟨c266, h⟩ := of_gd h
                                                                  refine kj_sld (pc := 1022) C hX hbl hbA c266 dL_law_1022 ?_
                                                                  obtain ⟨q267, eq267, h⟩ := of_bind h
                                                                  refine kj_callV1 (pc := 1023) C (ct_X10_count eq267) (Nat.le_of_ble_eq_true rfl) mi_X10_count ml_L_143 rc_27 rfl rfl ar1 (Nat.le_of_ble_eq_true rfl) dL_law_1023 ?_
                                                                  refine kj_icmp_eq (pc := 1026) C dL_law_1026 (tgt := 1031) (by decide) (fun c268 => ?_) (fun c268 => ?_)
                                                                  · have h := of_pos c268 h
                                                                    exact k_L_law_1031 C hr hR hX hbl hbA hge ht ih _ _ h
                                                                  · have h := of_neg c268 h
                                                                    refine kj_iconst (pc := 1029) C (v := 0) dL_law_1029 ci_0 ?_
                                                                    cases h
                                                                    exact absurd (show (0 : Int32) = 1 from ht) (by decide)
                                                                · have h := of_neg c269 h
                                                                  refine kj_tsOut (pc := 32) C (tgt := 1031) dL_law_32 (ts_out29 c11 c15 c19 c23 c35 c43 c47 c59 c71 c75 c83 c87 c99 c107 c115 c119 c139 c151 c167 c183 c187 c195 c201 c217 c225 c237 c245 c253 c261 c269) (by decide) ?_
                                                                  exact k_L_law_1031 C hr hR hX hbl hbA hge ht ih _ _ h
