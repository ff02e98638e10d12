theorem lg_self (x : Int64) : lg_cmp x x = 0 := by
  unfold lg_cmp
  simp
def M0 : Mem := (fun o i k => if o = 27 ∧ i = 0 ∧ k = 12 then 63 else 0, fun _ => 0)
theorem M0_z {o i k : Nat} (h : ¬ (o = 27 ∧ i = 0 ∧ k = 12)) : M0.1 o i k = 0 := if_neg h
theorem M0_63 : mT M0 63 := by
  show (if (27 : Nat) = 27 ∧ (0 : Nat) = 0 ∧ (12 : Nat) = 12 then (63 : Int32) else 0) = nI 63
  rw [if_pos ⟨rfl, rfl, rfl⟩]
  rfl
theorem Inv_0 : Inv M0 := by
  refine ⟨⟨0, fun _ => 0, fun _ => 0, fun _ => 0, fun _ => 0, fun _ => 0, fun _ => 0, 0, 0, ⟨⟨by omega, fun i hi => by omega⟩, ⟨fun i hi => by omega, fun i hi => by omega, fun i hi => by omega, M0_z (by omega)⟩, ⟨fun i hi => by omega, fun i hi => by omega, fun i hi => by omega, M0_z (by omega)⟩, ⟨by decide, fun i hi => by omega, by decide⟩, ⟨fun i hi => by omega, fun i hi => by omega, fun i hi => by omega, M0_z (by omega), M0_z (by omega), M0_z (by omega)⟩, ⟨fun i hi => by omega, fun i hi => by omega, fun i hi => by omega, M0_z (by omega), M0_z (by omega)⟩, M0_63⟩, ⟨0, 0, by omega, by omega, M0_z (by omega), M0_z (by omega), M0_z (by omega), M0_z (by omega), fun j hj q => absurd q (by omega)⟩, ⟨0, by omega, M0_z (by omega), fun i hi => ⟨?_, fun q => ?_⟩⟩⟩, ⟨0, fun _ => 0, fun _ => 0, fun _ => 0, by omega, M0_z (by omega), M0_z (by omega), fun i hi => by omega⟩, ⟨0, fun _ => 0, by omega, M0_z (by omega), M0_z (by omega), fun i hi => by omega⟩, rfl⟩
  · rw [Nat.zero_testBit]; exact M0_z (by omega)
  · rw [Nat.zero_testBit] at q; cases q
theorem law_step (sx : Nat → Int32) (L : Nat) (hL : L ≤ 320) (f i : Nat) (hi : i + 5 ≤ L) (M : Mem) (hI : Inv M) : ∃ M', f_L_law_18 sx L (f + 1) (nI i) M = f_L_law_18 sx L f (nI (i + 5)) M' ∧ Inv M' := by
  have hL2 : L < 2 ^ 31 := by omega
  have fin : ∀ M2 : Mem, f_L_law_1031 sx L (f_L_law_18 sx L f) (nI i) M2 = f_L_law_18 sx L f (nI (i + 5)) M2 := fun M2 => by
    unfold f_L_law_1031
    rw [lt_, show nI i + 5 = nI (i + 5) from nI_add i 5]
  have y1 : nI i + 1 = nI (i + 1) := nI_add1 i
  have y2 : nI i + 2 = nI (i + 2) := nI_add i 2
  have y3 : nI i + 3 = nI (i + 3) := nI_add i 3
  have y4 : nI i + 4 = nI (i + 4) := nI_add i 4
  have g1 : i + 1 < L := by omega
  have g2 : i + 2 < L := by omega
  have g3 : i + 3 < L := by omega
  have g4 : i + 4 < L := by omega
  have t1 : (nI (i + 1)).toNatClampNeg = i + 1 := tn_nI (by omega)
  have t2 : (nI (i + 2)).toNatClampNeg = i + 2 := tn_nI (by omega)
  have t3 : (nI (i + 3)).toNatClampNeg = i + 3 := tn_nI (by omega)
  have t4 : (nI (i + 4)).toNatClampNeg = i + 4 := tn_nI (by omega)
  rw [f_L_law_18, show Int32.ofNat L - 5 = nI (L - 5) from pk_sub (a := L) (b := 5) (by omega), if_neg (nI_nlt (by omega) (by omega)), if_gd (show i < L by omega) hL2, lt_]
  obtain ⟨op, hop⟩ : ∃ op, op = sx (nI i).toNatClampNeg &&& (31 : Int32) := ⟨_, rfl⟩
  rw [← hop]
  by_cases h0 : op = 0
  · rw [if_pos h0]
    obtain ⟨r, M1, M2, e1, e2, I2⟩ := op_write (sx (i + 1)) M hI
    refine ⟨M2, ?_, I2⟩
    rw [lt_, y1, if_gd g1 hL2, t1, e1, Option.bind_some, lt_, if_gd g1 hL2, t1, e2, Option.bind_some, if_pos rfl, fin]
  rw [if_neg h0]
  by_cases h1 : op = 1
  · rw [if_pos h1]
    obtain ⟨r, M1, M2, e1, e2, I2⟩ := op_wipe M hI
    refine ⟨M2, ?_, I2⟩
    rw [e1, Option.bind_some, e2, Option.bind_some, if_pos rfl, fin]
  rw [if_neg h1]
  by_cases h2 : op = 2
  · rw [if_pos h2]
    obtain ⟨r, M2, e1, e2, I2⟩ := op_fault hI
    refine ⟨M2, ?_, I2⟩
    rw [e1, Option.bind_some, e2, Option.bind_some, if_pos rfl, fin]
  rw [if_neg h2]
  by_cases h3 : op = 3
  · rw [if_pos h3]
    obtain ⟨r, M1, M2, e1, e2, I2⟩ := op_choir M hI
    refine ⟨M2, ?_, I2⟩
    rw [e1, Option.bind_some, e2, Option.bind_some, if_pos rfl, fin]
  rw [if_neg h3]
  by_cases h4 : op = 4
  · rw [if_pos h4]
    obtain ⟨r, e1, e2⟩ := op_singer (sx (i + 1)) (sx (i + 2)) hI
    refine ⟨M, ?_, hI⟩
    rw [lt_, y1, if_gd g1 hL2, lt_, y2, if_gd g2 hL2, t1, t2, e1, Option.bind_some, lt_, if_gd g1 hL2, lt_, if_gd g2 hL2, t1, t2, e2, Option.bind_some, if_pos rfl, fin]
  rw [if_neg h4]
  by_cases h5 : op = 5
  · rw [if_pos h5]
    obtain ⟨r, e1, e2⟩ := op_seat (sx (i + 1)) hI
    refine ⟨M, ?_, hI⟩
    rw [lt_, y1, if_gd g1 hL2, t1, e1, Option.bind_some, lt_, if_gd g1 hL2, t1, e2, Option.bind_some, if_pos rfl, fin]
  rw [if_neg h5]
  by_cases h6 : op = 6
  · rw [if_pos h6]
    obtain ⟨r, M1, M2, e1, e2, I2⟩ := op_bar M hI
    refine ⟨M2, ?_, I2⟩
    rw [e1, Option.bind_some, e2, Option.bind_some, if_pos rfl, fin]
  rw [if_neg h6]
  by_cases h7 : op = 7
  · rw [if_pos h7]
    obtain ⟨r, M1, M2, e1, e2, I2⟩ := op_gift (sx (i + 1)) (sx (i + 2)) M hI
    refine ⟨M2, ?_, I2⟩
    rw [lt_, y1, if_gd g1 hL2, lt_, y2, if_gd g2 hL2, t1, t2, e1, Option.bind_some, lt_, if_gd g1 hL2, lt_, if_gd g2 hL2, t1, t2, e2, Option.bind_some, if_pos rfl, fin]
  rw [if_neg h7]
  by_cases h8 : op = 8
  · rw [if_pos h8]
    obtain ⟨r, M1, M2, e1, e2, I2⟩ := op_change (sx (i + 1)) (sx (i + 2)) M hI
    refine ⟨M2, ?_, I2⟩
    rw [lt_, y1, if_gd g1 hL2, lt_, y2, if_gd g2 hL2, t1, t2, e1, Option.bind_some, lt_, if_gd g1 hL2, lt_, if_gd g2 hL2, t1, t2, e2, Option.bind_some, if_pos rfl, fin]
  rw [if_neg h8]
  by_cases h9 : op = 9
  · rw [if_pos h9]
    obtain ⟨r, M1, M2, e1, e2, I2⟩ := op_pitch M hI
    refine ⟨M2, ?_, I2⟩
    rw [e1, Option.bind_some, e2, Option.bind_some, if_pos rfl, fin]
  rw [if_neg h9]
  by_cases h10 : op = 10
  · rw [if_pos h10]
    obtain ⟨r, M1, M2, e1, e2, I2⟩ := op_hold (sx (i + 1)) M hI
    refine ⟨M2, ?_, I2⟩
    rw [lt_, y1, if_gd g1 hL2, t1, e1, Option.bind_some, lt_, if_gd g1 hL2, t1, e2, Option.bind_some, if_pos rfl, fin]
  rw [if_neg h10]
  by_cases h11 : op = 11
  · rw [if_pos h11]
    obtain ⟨r, M1, M2, e1, e2, I2⟩ := op_undo M hI
    refine ⟨M2, ?_, I2⟩
    rw [e1, Option.bind_some, e2, Option.bind_some, if_pos rfl, fin]
  rw [if_neg h11]
  by_cases h12 : op = 12
  · rw [if_pos h12]
    obtain ⟨r, M1, M2, e1, e2, I2⟩ := op_sings (sx (i + 1)) (sx (i + 2)) M hI
    refine ⟨M2, ?_, I2⟩
    rw [lt_, y1, if_gd g1 hL2, lt_, y2, if_gd g2 hL2, t1, t2, e1, Option.bind_some, lt_, if_gd g1 hL2, lt_, if_gd g2 hL2, t1, t2, e2, Option.bind_some, if_pos rfl, fin]
  rw [if_neg h12]
  by_cases h13 : op = 13
  · rw [if_pos h13]
    obtain ⟨r, M1, M2, e1, e2, I2⟩ := op_notes (sx (i + 1)) M hI
    refine ⟨M2, ?_, I2⟩
    rw [lt_, y1, if_gd g1 hL2, t1, e1, Option.bind_some, lt_, if_gd g1 hL2, t1, e2, Option.bind_some, if_pos rfl, fin]
  rw [if_neg h13]
  by_cases h14 : op = 14
  · rw [if_pos h14]
    obtain ⟨r, M1, M2, e1, e2, I2⟩ := op_round (sx (i + 1)) M hI
    refine ⟨M2, ?_, I2⟩
    rw [lt_, y1, if_gd g1 hL2, t1, e1, Option.bind_some, lt_, if_gd g1 hL2, t1, e2, Option.bind_some, if_pos rfl, fin]
  rw [if_neg h14]
  by_cases h15 : op = 15
  · rw [if_pos h15]
    obtain ⟨r, M1, M2, e1, e2, I2⟩ := op_unison M hI
    refine ⟨M2, ?_, I2⟩
    rw [e1, Option.bind_some, e2, Option.bind_some, if_pos rfl, fin]
  rw [if_neg h15]
  by_cases h16 : op = 16
  · rw [if_pos h16]
    obtain ⟨r, M1, M2, e1, e2, I2⟩ := op_gets (sx (i + 1)) (sx (i + 2)) (sx (i + 3)) (sx (i + 4)) M hI
    refine ⟨M2, ?_, I2⟩
    rw [lt_, y1, if_gd g1 hL2, lt_, y2, if_gd g2 hL2, lt_, y3, if_gd g3 hL2, lt_, y4, if_gd g4 hL2, t1, t2, t3, t4, e1, Option.bind_some, lt_, if_gd g1 hL2, lt_, if_gd g2 hL2, lt_, if_gd g3 hL2, lt_, if_gd g4 hL2, t1, t2, t3, t4, e2, Option.bind_some, if_pos rfl, fin]
  rw [if_neg h16]
  by_cases h17 : op = 17
  · rw [if_pos h17]
    obtain ⟨r, M1, M2, e1, e2, I2⟩ := op_best (sx (i + 1)) (sx (i + 2)) M hI
    refine ⟨M2, ?_, I2⟩
    rw [lt_, y1, if_gd g1 hL2, lt_, y2, if_gd g2 hL2, t1, t2, e1, Option.bind_some, lt_, if_gd g1 hL2, lt_, if_gd g2 hL2, t1, t2, e2, Option.bind_some, if_pos rfl, fin]
  rw [if_neg h17]
  by_cases h18 : op = 18
  · rw [if_pos h18]
    obtain ⟨r, M1, M2, e1, e2, I2⟩ := op_judge (sx (i + 1)) (((sx (i + 2)).toInt64 <<< ((32 : Int32).toInt64 &&& 63)) ||| ((sx (i + 3)).toInt64 &&& (4294967295 : Int64))) M hI
    refine ⟨M2, ?_, I2⟩
    rw [lt_, y1, if_gd g1 hL2, lt_, y2, if_gd g2 hL2, lt_, y3, if_gd g3 hL2, t1, t2, t3, e1, Option.bind_some, lt_, if_gd g1 hL2, lt_, if_gd g2 hL2, lt_, if_gd g3 hL2, t1, t2, t3, e2, Option.bind_some, if_pos rfl, fin]
  rw [if_neg h18]
  by_cases h19 : op = 19
  · rw [if_pos h19]
    obtain ⟨r, M1, M2, e1, e2, I2⟩ := op_hear (sx (i + 1)) (sx (i + 2)) (sx (i + 3)) M hI
    refine ⟨M2, ?_, I2⟩
    rw [lt_, y1, if_gd g1 hL2, lt_, y2, if_gd g2 hL2, lt_, y3, if_gd g3 hL2, t1, t2, t3, e1, Option.bind_some, lt_, if_gd g1 hL2, lt_, if_gd g2 hL2, lt_, if_gd g3 hL2, t1, t2, t3, e2, Option.bind_some, if_pos rfl, fin]
  rw [if_neg h19]
  by_cases h20 : op = 20
  · rw [if_pos h20]
    obtain ⟨r, M1, M2, e1, e2, I2⟩ := op_unhear M hI
    refine ⟨M2, ?_, I2⟩
    rw [e1, Option.bind_some, e2, Option.bind_some, if_pos rfl, fin]
  rw [if_neg h20]
  by_cases h21 : op = 21
  · rw [if_pos h21]
    obtain ⟨r, M1, M2, e1, e2, I2⟩ := op_had (sx (i + 1)) M hI
    refine ⟨M2, ?_, I2⟩
    rw [lt_, y1, if_gd g1 hL2, t1, e1, Option.bind_some, lt_, if_gd g1 hL2, t1, e2, Option.bind_some, if_pos rfl, fin]
  rw [if_neg h21]
  by_cases h22 : op = 22
  · rw [if_pos h22]
    rw [lt_, y1, if_gd g1 hL2, lt_, y2, if_gd g2 hL2, t1, t2]
    unfold f_L_law_753 f_L_law_775
    by_cases hz : sx (i + 2) = 0
    · obtain ⟨r, M1, M2, e1, e2, I2⟩ := op_share (sx (i + 1)) 0 M hI
      refine ⟨M2, ?_, I2⟩
      rw [if_pos hz, e1, Option.bind_some, lt_, y1, if_gd g1 hL2, lt_, y2, if_gd g2 hL2, t1, t2, if_pos hz, e2, Option.bind_some, if_pos rfl, fin]
    · obtain ⟨r, M1, M2, e1, e2, I2⟩ := op_share (sx (i + 1)) 1 M hI
      refine ⟨M2, ?_, I2⟩
      rw [if_neg hz, e1, Option.bind_some, lt_, y1, if_gd g1 hL2, lt_, y2, if_gd g2 hL2, t1, t2, if_neg hz, e2, Option.bind_some, if_pos rfl, fin]
  rw [if_neg h22]
  by_cases h23 : op = 23
  · rw [if_pos h23]
    obtain ⟨r, M1, M2, e1, e2, I2⟩ := op_rests (sx (i + 1)) (sx (i + 2)) (sx (i + 3)) M hI
    refine ⟨M2, ?_, I2⟩
    rw [lt_, y1, if_gd g1 hL2, lt_, y2, if_gd g2 hL2, lt_, y3, if_gd g3 hL2, t1, t2, t3, e1, Option.bind_some, lt_, if_gd g1 hL2, lt_, if_gd g2 hL2, lt_, if_gd g3 hL2, t1, t2, t3, e2, Option.bind_some, if_pos rfl, fin]
  rw [if_neg h23]
  by_cases h24 : op = 24
  · rw [if_pos h24]
    rw [lt_, y1, if_gd g1 hL2, lt_, y2, if_gd g2 hL2, lt_, y3, if_gd g3 hL2, t1, t2, t3]
    unfold f_L_law_850 f_L_law_877
    by_cases hz : sx (i + 3) = 0
    · obtain ⟨r, M1, M2, e1, e2, I2⟩ := op_hoarse (sx (i + 1)) (sx (i + 2)) 0 M hI
      refine ⟨M2, ?_, I2⟩
      rw [if_pos hz, e1, Option.bind_some, lt_, y1, if_gd g1 hL2, lt_, y2, if_gd g2 hL2, lt_, y3, if_gd g3 hL2, t1, t2, t3, if_pos hz, e2, Option.bind_some, if_pos rfl, fin]
    · obtain ⟨r, M1, M2, e1, e2, I2⟩ := op_hoarse (sx (i + 1)) (sx (i + 2)) 1 M hI
      refine ⟨M2, ?_, I2⟩
      rw [if_neg hz, e1, Option.bind_some, lt_, y1, if_gd g1 hL2, lt_, y2, if_gd g2 hL2, lt_, y3, if_gd g3 hL2, t1, t2, t3, if_neg hz, e2, Option.bind_some, if_pos rfl, fin]
  rw [if_neg h24]
  by_cases h25 : op = 25
  · rw [if_pos h25]
    obtain ⟨r, M1, M2, e1, e2, I2⟩ := op_seed (((sx (i + 1)).toInt64 <<< ((32 : Int32).toInt64 &&& 63)) ||| ((sx (i + 2)).toInt64 &&& (4294967295 : Int64))) M hI
    refine ⟨M2, ?_, I2⟩
    rw [lt_, y1, if_gd g1 hL2, lt_, y2, if_gd g2 hL2, t1, t2, e1, Option.bind_some, lt_, if_gd g1 hL2, lt_, if_gd g2 hL2, t1, t2, e2, Option.bind_some, if_pos (lg_self r), fin]
  rw [if_neg h25]
  by_cases h26 : op = 26
  · rw [if_pos h26]
    obtain ⟨r, M1, M2, e1, e2, I2⟩ := op_years (sx (i + 1)) M hI
    refine ⟨M2, ?_, I2⟩
    rw [lt_, y1, if_gd g1 hL2, t1, e1, Option.bind_some, lt_, if_gd g1 hL2, t1, e2, Option.bind_some, if_pos rfl, fin]
  rw [if_neg h26]
  by_cases h27 : op = 27
  · rw [if_pos h27]
    obtain ⟨r, M1, M2, e1, e2, I2⟩ := op_keep (sx (i + 1)) M hI
    refine ⟨M2, ?_, I2⟩
    rw [lt_, y1, if_gd g1 hL2, t1, e1, Option.bind_some, lt_, if_gd g1 hL2, t1, e2, Option.bind_some, if_pos rfl, fin]
  rw [if_neg h27]
  by_cases h28 : op = 28
  · rw [if_pos h28]
    obtain ⟨r, M1, M2, e1, e2, I2⟩ := op_again (sx (i + 1)) M hI
    refine ⟨M2, ?_, I2⟩
    rw [lt_, y1, if_gd g1 hL2, t1, e1, Option.bind_some, lt_, if_gd g1 hL2, t1, e2, Option.bind_some, if_pos rfl, fin]
  rw [if_neg h28]
  by_cases h29 : op = 29
  · rw [if_pos h29]
    obtain ⟨r, e1, e2⟩ := op_count (sx (i + 1)) hI
    refine ⟨M, ?_, hI⟩
    rw [lt_, y1, if_gd g1 hL2, t1, e1, Option.bind_some, lt_, if_gd g1 hL2, t1, e2, Option.bind_some, if_pos rfl, fin]
  rw [if_neg h29]
  exact ⟨M, fin M, hI⟩
theorem law_pure (sx : Nat → Int32) (L : Nat) (hL : L ≤ 320) : ∃ t : Int32 × Mem, f_L_law_18 sx L 100 0 M0 = some t ∧ t.1 = 1 := by
  refine loopE (fun f k (M1 : Mem) => f_L_law_18 sx L f (nI (5 * k)) M1) (L / 5) (fun k M1 => Inv M1) (fun r => ∃ t : Int32 × Mem, r = some t ∧ t.1 = 1) ?_ ?_ (L / 5) 0 (by omega) 100 M0 (by omega) Inv_0
  · rintro f k M1 hk hI
    left
    obtain ⟨M2, e2, I2⟩ := law_step sx L hL f (5 * k) (by omega) M1 hI
    exact ⟨M2, e2, I2⟩
  · rintro f M1 hI
    refine ⟨(1, M1), ?_, rfl⟩
    show f_L_law_18 sx L (f + 1) (nI (5 * (L / 5))) M1 = _
    rw [f_L_law_18, if_pos]
    rcases Nat.lt_or_ge L 5 with c | c
    · have : ∀ L, L < 5 → Int32.ofNat L - 5 < nI (5 * (L / 5)) := by decide +kernel
      exact this L c
    · rw [show Int32.ofNat L - 5 = nI (L - 5) from pk_sub (a := L) (b := 5) c]
      exact nI_lt (by omega) (by omega)
