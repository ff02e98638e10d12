theorem op_keep (v : Int32) : Op (f_X9_keep v) (f_X10_keep v) := by
  intro M hI
  obtain ⟨⟨n, vo, ra, ki, se, go, no, he, ba, hN, ⟨nx, ac, r1, r2, r3, r4, r5, r6, r7⟩, ⟨fl, s1, s2, s3⟩⟩, hH, hT, hsd⟩ := id hI
  obtain ⟨oR, hcR, hmR, ok, hcS, hmS, hTh⟩ := id hN
  have hn := oR.1
  have i19 : ¬ ((19 : Int32) < 0 ∨ 40 ≤ (19 : Int32).toNatClampNeg) := by decide
  have j19 : (19 : Int32).toNatClampNeg = 19 := by decide
  unfold f_X9_keep f_X9_keep_26 f_X6_put f_X10_keep
  rw [show f_X9_isWithin v 0 1 M = some (b2 (wi 0 1 v)) from c_within]
  simp only [Option.bind_some, if_b2, lt_, show ∀ M1, f_X10_in v.toInt64 0 1 M1 = some (b2 (wi 0 1 v)) from fun M1 => m_within]
  by_cases h : wi 0 1 v = true
  · obtain ⟨k, rfl, -, hk⟩ := wi_true (lo := 0) (hi := 1) h (by decide)
    obtain ⟨M1, e1, A1, S1⟩ := c_copy (M := M) (o := 16 + k) (o1 := 0) (by omega) hcS hn
    obtain ⟨M2, hM2⟩ : ∃ M2, M2 = sw M1 22 0 1 (nI (fl ||| 2 ^ k)) := ⟨_, rfl⟩
    have A12 : Alk (fun a b => (a = 16 + k ∧ b < 4) ∨ (a = 22 ∧ b = 0)) M M2 := (A1.wk (fun a b e => by omega)).tr (by rw [hM2]; exact Alk.sw (by omega))
    obtain ⟨M3, hM3⟩ : ∃ M3, M3 = sw M2 27 13 k 1 := ⟨_, rfl⟩
    have A3 : Alk (fun a b => a = 27 ∧ b = 13) M2 M3 := by rw [hM3]; exact Alk.sw (by omega)
    obtain ⟨X, hX⟩ : ∃ X : Nat → Int32, X = fun i => M.1 27 4 i := ⟨_, rfl⟩
    obtain ⟨M4, hM4⟩ : ∃ M4, M4 = wr M3 14 (20 * k) X 20 := ⟨_, rfl⟩
    have A4 : Alk (fun a b => a = 27 ∧ b = 14) M3 M4 := by rw [hM4]; exact wr_alk 20
    have q4 : M3.1 27 4 = M.1 27 4 := by rw [A3.1 27 4 (by omega), A12.1 27 4 (by omega)]
    have e21 : f_X10_keep_21 100 (nI k) 0 M3 = some (nI ba, M4) := by
      rw [hM4]
      refine loopF (fun f i (M1 : Mem) => f_X10_keep_21 f (nI k) (nI i) M1) 20 (fun j => wr M3 14 (20 * k) X j) _ ?_ ?_ 100 (by omega)
      · intro f i hi
        have hA := wr_alk (M := M3) (b := 14) (pl := 20 * k) (X := X) i
        show f_X10_keep_21 (f + 1) (nI k) (nI i) (wr M3 14 (20 * k) X i) = f_X10_keep_21 f (nI k) (nI (i + 1)) (sw (wr M3 14 (20 * k) X i) 27 14 (20 * k + i) (X i))
        rw [f_X10_keep_21, if_neg (show ¬ (20 : Int32) ≤ nI i from fun q => absurd ((nI_leI (a := 20) (by decide) (by omega)).mp q) (by omega)), if_gd (show i < 40 by omega) (by decide)]
        simp only [lt_, nI_add1]
        rw [ix20, if_gd (show 20 * k + i < 40 by omega) (by decide), tn_nI (by omega), tn_nI (by omega), hA.1 27 4 (by omega), q4, hX]
      · intro f
        have hA := wr_alk (M := M3) (b := 14) (pl := 20 * k) (X := X) 20
        show f_X10_keep_21 (f + 1) (nI k) (nI 20) (wr M3 14 (20 * k) X 20) = _
        rw [f_X10_keep_21, if_pos (show (20 : Int32) ≤ nI 20 by decide), if_pos i19, j19, hA.1 27 4 (by omega), q4]
        rw [show M.1 27 4 19 = nI ba from hmS.2.2.2.2]
    refine ⟨nI ba, M2, M4, ?_, ?_, ?_⟩
    · rw [if_pos h, if_gd (show k < 2 by omega) (by decide), tn_nI (by omega), e1]
      simp only [Option.bind_some]
      rw [A1.1 22 0 (by omega), s2, shl1 (by omega), nI_or, ← hM2, if_neg (by decide), A12.1 0 0 (by omega), hcS.2.2.2.2.2]
    · rw [if_pos h, if_gd (show k < 2 by omega) (by decide), tn_nI (by omega), ← hM3]
      exact e21
    · have B : Alk (fun a b => a = 27 ∧ (b = 13 ∨ b = 14)) M2 M4 := (A3.wk (fun a b e => by omega)).tr (A4.wk (fun a b e => by omega))
      have hfl : fl ||| 2 ^ k < 4 := Nat.or_lt_two_pow (n := 2) s1 (Nat.pow_lt_pow_right (by decide) (by omega))
      refine ⟨⟨n, vo, ra, ki, se, go, no, he, ba, ⟨oR, ?_, ?_, ok, cS_eq hcS (fun b _ => by rw [B.1 0 b (by omega), A12.1 0 b (by omega)]), mS_eq hmS (fun k _ => by rw [B.1 27 4 (by omega), A12.1 27 4 (by omega)]) hn, ?_⟩, ⟨nx, ac, r1, r2, ?_, ?_, ?_, ?_, fun j hj hv => Slo_eq (r7 j hj hv) (fun x _ => by rw [B.1 _ _ (by omega), A12.1 _ _ (by omega)]) (fun k _ => by rw [B.1 27 8 (by omega), A12.1 27 8 (by omega)]) hn⟩, ⟨fl ||| 2 ^ k, hfl, ?_, fun i hi => ⟨?_, fun hb => ?_⟩⟩⟩, Hrd_eq hH (fun b => by rw [B.1 23 b (by omega), A12.1 23 b (by omega)]) (fun b e => by rw [B.1 27 b (by omega), A12.1 27 b (by omega)]) (by rw [B.1 27 0 (by omega), A12.1 27 0 (by omega)]), Txt_eq hT (fun b => by rw [B.1 18 b (by omega), A12.1 18 b (by omega)]) (by rw [B.1 27 6 (by omega), A12.1 27 6 (by omega)]) (by rw [B.1 27 0 (by omega), A12.1 27 0 (by omega)]), by rw [B.2, A12.2]; exact hsd⟩
      · unfold cR; rw [B.1 19 0 (by omega), B.1 19 1 (by omega), B.1 19 2 (by omega), B.1 19 3 (by omega), A12.1 19 0 (by omega), A12.1 19 1 (by omega), A12.1 19 2 (by omega), A12.1 19 3 (by omega)]; exact hcR
      · unfold mR; rw [B.1 27 0 (by omega), B.1 27 1 (by omega), B.1 27 2 (by omega), B.1 27 3 (by omega), A12.1 27 0 (by omega), A12.1 27 1 (by omega), A12.1 27 2 (by omega), A12.1 27 3 (by omega)]; exact hmR
      · unfold mT; rw [B.1 27 0 (by omega), A12.1 27 0 (by omega)]; exact hTh
      · rw [B.1 21 0 (by omega), A12.1 21 0 (by omega)]; exact r3
      · rw [B.1 21 0 (by omega), A12.1 21 0 (by omega)]; exact r4
      · rw [B.1 27 0 (by omega), A12.1 27 0 (by omega)]; exact r5
      · rw [B.1 27 0 (by omega), A12.1 27 0 (by omega)]; exact r6
      · rw [B.1 22 0 (by omega), hM2, sw_same, upd_same]
      · rw [A4.1 27 13 (by omega), hM3, sw_same]
        by_cases e : i = k
        · subst e; rw [upd_same, Nat.testBit_or, Nat.testBit_two_pow]; simp; rfl
        · rw [upd_ne e, A12.1 27 13 (by omega), (s3 i hi).1, Nat.testBit_or, Nat.testBit_two_pow]
          have : ¬ k = i := fun q => e q.symm
          simp [this]
      · by_cases e : i = k
        · subst e
          refine ⟨se, go, no, he, ba, ok, cS_eq S1 (fun b _ => by rw [B.1 _ b (by omega), hM2, sw_ne (by omega)]), ?_⟩
          have at_ : ∀ j, j < 20 → M4.1 27 14 (20 * i + j) = M.1 27 4 j := fun j hj => by rw [hM4, wr_at 20 j hj, hX]
          refine ⟨fun j hj => ?_, fun j hj => ?_, fun j hj => ?_, ?_, ?_⟩
          · rw [at_ j (by omega)]; have := hmS.1 j hj; rwa [show 20 * 0 + j = j by omega] at this
          · rw [show 20 * i + 6 + j = 20 * i + (6 + j) by omega, at_ _ (by omega)]; have := hmS.2.1 j hj; rwa [show 20 * 0 + 6 + j = 6 + j by omega] at this
          · rw [show 20 * i + 12 + j = 20 * i + (12 + j) by omega, at_ _ (by omega)]; have := hmS.2.2.1 j hj; rwa [show 20 * 0 + 12 + j = 12 + j by omega] at this
          · rw [at_ 18 (by omega)]; exact hmS.2.2.2.1
          · rw [at_ 19 (by omega)]; exact hmS.2.2.2.2
        · have hb' : fl.testBit i = true := by
            rw [Nat.testBit_or, Nat.testBit_two_pow] at hb
            have : ¬ k = i := fun q => e q.symm
            simpa [this] using hb
          refine Slo_eq ((s3 i hi).2 hb') (fun x _ => by rw [B.1 _ _ (by omega), A12.1 _ _ (by omega)]) (fun j hj => ?_) hn
          rw [hM4, wr_out 20 (by omega), A3.1 27 14 (by omega), A12.1 27 14 (by omega)]
  · refine ⟨-1, M, M, by rw [if_neg h]; rfl, by rw [if_neg h], hI⟩
theorem op_again (v : Int32) : Op (f_X9_again v) (f_X10_again v) := by
  intro M hI
  obtain ⟨⟨n, vo, ra, ki, se, go, no, he, ba, hN, ⟨nx, ac, r1, r2, r3, r4, r5, r6, r7⟩, ⟨fl, s1, s2, s3⟩⟩, hH, hT, hsd⟩ := id hI
  obtain ⟨oR, hcR, hmR, ok, hcS, hmS, hTh⟩ := id hN
  have hn := oR.1
  have i19 : ¬ ((19 : Int32) < 0 ∨ 40 ≤ (19 : Int32).toNatClampNeg) := by decide
  have j19 : (19 : Int32).toNatClampNeg = 19 := by decide
  unfold f_X9_again f_X6_giveBack f_X6_giveBack_20 f_X0_forgetAll f_X10_again
  rw [show f_X9_isWithin v 0 1 M = some (b2 (wi 0 1 v)) from c_within]
  simp only [Option.bind_some, if_b2, lt_, show ∀ M1, f_X10_in v.toInt64 0 1 M1 = some (b2 (wi 0 1 v)) from fun M1 => m_within]
  by_cases h : wi 0 1 v = true
  · obtain ⟨k, rfl, -, hk⟩ := wi_true (lo := 0) (hi := 1) h (by decide)
    rw [if_pos h, if_pos h, s2, bit_b2 (by omega) (by omega)]
    simp only [if_b2, if_gd (show k < 2 by omega) (show 2 < 2 ^ 31 by decide)]
    rw [tn_nI (by omega)]
    by_cases hb : fl.testBit k = true
    · obtain ⟨se', go', no', he', ba', ok', c', m'⟩ := (s3 k (by omega)).2 hb
      obtain ⟨M1, e1, A1, S1⟩ := c_copy (M := M) (o := 0) (o1 := 16 + k) (by omega) c' hn
      obtain ⟨M2, hM2⟩ : ∃ M2, M2 = sw M1 21 0 2 0 := ⟨_, rfl⟩
      have A12 : Alk (fun a b => a = 0 ∨ (a = 21 ∧ b = 0)) M M2 := (A1.wk (fun a b e => by omega)).tr (by rw [hM2]; exact Alk.sw (by omega))
      obtain ⟨X, hX⟩ : ∃ X : Nat → Int32, X = fun i => M.1 27 14 (20 * k + i) := ⟨_, rfl⟩
      obtain ⟨M3, hM3⟩ : ∃ M3, M3 = wr M2 4 0 X 20 := ⟨_, rfl⟩
      have A3 : Alk (fun a b => a = 27 ∧ b = 4) M2 M3 := by rw [hM3]; exact wr_alk 20
      obtain ⟨M4, hM4⟩ : ∃ M4, M4 = sw M3 27 0 14 0 := ⟨_, rfl⟩
      have at_ : ∀ j, j < 20 → M4.1 27 4 j = M.1 27 14 (20 * k + j) := fun j hj => by
        have := wr_at (M := M2) (b := 4) (pl := 0) (X := X) 20 j hj
        rw [Nat.zero_add] at this
        rw [hM4, sw_ne (by omega), hM3, this, hX]
      have e26 : f_X10_again_26 100 (nI k) 0 M2 = some (nI ba', M4) := by
        rw [hM4, hM3]
        refine loopF (fun f i (M1 : Mem) => f_X10_again_26 f (nI k) (nI i) M1) 20 (fun j => wr M2 4 0 X j) _ ?_ ?_ 100 (by omega)
        · intro f i hi
          have hA := wr_alk (M := M2) (b := 4) (pl := 0) (X := X) i
          show f_X10_again_26 (f + 1) (nI k) (nI i) (wr M2 4 0 X i) = f_X10_again_26 f (nI k) (nI (i + 1)) (sw (wr M2 4 0 X i) 27 4 (0 + i) (X i))
          rw [f_X10_again_26, if_neg (show ¬ (20 : Int32) ≤ nI i from fun q => absurd ((nI_leI (a := 20) (by decide) (by omega)).mp q) (by omega))]
          simp only [lt_, nI_add1]
          rw [ix20, if_gd (show 20 * k + i < 40 by omega) (by decide), if_gd (show i < 40 by omega) (by decide), tn_nI (by omega), tn_nI (by omega), hA.1 27 14 (by omega), A12.1 27 14 (by omega), Nat.zero_add, hX]
        · intro f
          show f_X10_again_26 (f + 1) (nI k) (nI 20) (wr M2 4 0 X 20) = _
          rw [f_X10_again_26, if_pos (show (20 : Int32) ≤ nI 20 by decide)]
          simp only [lt_]
          rw [if_pos i19, j19, ← hM3, ← hM4, at_ 19 (by omega), m'.2.2.2.2]
      have g2 : M2.1 0 0 7 = nI ba' := by rw [hM2, sw_ne (by omega)]; exact S1.2.2.2.2.2
      refine ⟨nI ba', M2, M4, ?_, ?_, ?_⟩
      · rw [if_pos hb, e1]
        simp only [Option.bind_some]
        rw [if_neg (by decide), ← hM2, g2]
      · rw [if_pos h, A12.1 27 13 (by omega), (s3 k (by omega)).1, hb, if_neg (show ¬ b2 true = 0 by decide)]
        exact e26
      · have B : Alk (fun a b => a = 27 ∧ (b = 0 ∨ b = 4)) M2 M4 := (A3.wk (fun a b e => by omega)).tr (by rw [hM4]; exact Alk.sw (by omega))
        have z0 : ∀ j, j ≠ 14 → M4.1 27 0 j = M.1 27 0 j := fun j h1 => by rw [hM4, sw_same, upd_ne h1, A3.1 27 0 (by omega), A12.1 27 0 (by omega)]
        refine ⟨⟨n, vo, ra, ki, se', go', no', he', ba', ⟨oR, ?_, ?_, ok', cS_eq S1 (fun b _ => by rw [B.1 0 b (by omega), hM2, sw_ne (by omega)]), mX_mS m' hn at_, ?_⟩, ⟨nx, 0, r1, by omega, ?_, ?_, ?_, ?_, fun j hj hv => by omega⟩, ⟨fl, s1, by rw [B.1 22 0 (by omega), A12.1 22 0 (by omega)]; exact s2, fun i hi => ⟨by rw [B.1 27 13 (by omega), A12.1 27 13 (by omega)]; exact (s3 i hi).1, fun hb => Slo_eq ((s3 i hi).2 hb) (fun x _ => by rw [B.1 _ _ (by omega), A12.1 _ _ (by omega)]) (fun k _ => by rw [B.1 27 14 (by omega), A12.1 27 14 (by omega)]) hn⟩⟩⟩, Hrd_eq hH (fun b => by rw [B.1 23 b (by omega), A12.1 23 b (by omega)]) (fun b e => by rw [B.1 27 b (by omega), A12.1 27 b (by omega)]) (z0 18 (by decide)), Txt_eq hT (fun b => by rw [B.1 18 b (by omega), A12.1 18 b (by omega)]) (by rw [B.1 27 6 (by omega), A12.1 27 6 (by omega)]) (z0 9 (by decide)), by rw [B.2, A12.2]; exact hsd⟩
        · unfold cR; rw [B.1 19 0 (by omega), B.1 19 1 (by omega), B.1 19 2 (by omega), B.1 19 3 (by omega), A12.1 19 0 (by omega), A12.1 19 1 (by omega), A12.1 19 2 (by omega), A12.1 19 3 (by omega)]; exact hcR
        · unfold mR; rw [z0 0 (by decide), B.1 27 1 (by omega), B.1 27 2 (by omega), B.1 27 3 (by omega), A12.1 27 1 (by omega), A12.1 27 2 (by omega), A12.1 27 3 (by omega)]; exact hmR
        · unfold mT; rw [z0 12 (by decide)]; exact hTh
        · rw [B.1 21 0 (by omega), hM2, sw_same, upd_ne (by decide), A1.1 21 0 (by omega)]; exact r3
        · rw [B.1 21 0 (by omega), hM2, sw_same, upd_same]; rfl
        · rw [z0 15 (by decide)]; exact r5
        · rw [hM4, sw_same, upd_same]; rfl
    · refine ⟨-3, M, M, by rw [if_neg hb]; rfl, ?_, hI⟩
      rw [if_pos h, (s3 k (by omega)).1]
      simp only [Bool.not_eq_true] at hb
      rw [hb]
      rfl
  · exact ⟨-1, M, M, by rw [if_neg h], by rw [if_neg h], hI⟩
/-! what is only asked -/
/-- the class's trial: laid from now -/
theorem c_lay {M : Mem} {n : Nat} {vo ra ki se go no : Nat → Nat} {he ba : Nat} (hN : Now M n vo ra ki se go no he ba) : ∃ M', f_X7_copyFrom 1 0 M = some M' ∧ Alk PC M M' ∧ cS M' 1 n (2 ^ n - 1) se go no he ba ∧ Now M' n vo ra ki se go no he ba := by
  obtain ⟨M', e, A, S⟩ := c_copy (M := M) (o := 1) (o1 := 0) (by decide) hN.2.2.2.2.1 hN.1.1
  have A' : Alk PC M M' := A.wk (fun a b e => Or.inl e.1)
  exact ⟨M', e, A', S, Now_c hN A'⟩
theorem c_on {M : Mem} {n th m : Nat} {vo ra ki se go no : Nat → Nat} {he ba : Nat} (oR : okR n vo ra ki) (hR : cR M n vo ra ki) (h : cS M 1 n th se go no he ba) (ok : okS n th se go no he) (hm : m ≤ 60) : ∃ M', f_X7_goOn 1 (nI m) M = some M' ∧ Alk PC M M' ∧ cS M' 1 n th se go (itr n th vo ra ki se go no he m) he ba := by
  obtain ⟨M', e, A, S⟩ := c_goOn hR oR h ok (by decide) hm
  exact ⟨M', e, A.wk (fun a b e => Or.inl e.1), S⟩
theorem op_sings (v w : Int32) : Op (f_X9_sings v w) (f_X10_sings v w) := by
  intro M hI
  obtain ⟨⟨n, vo, ra, ki, se, go, no, he, ba, hN, -, -⟩, -, -, -⟩ := id hI
  obtain ⟨oR, hcR, hmR, ok, hcS, hmS, hTh⟩ := id hN
  have hn := oR.1
  unfold f_X9_sings f_X9_sings_37 f_X2_noteBehind f_X10_sings
  rw [c_isSinger hcS.2.2.2.1 hn, show f_X9_isWithin w 0 60 M = some (b2 (wi 0 60 w)) from c_within]
  simp only [Option.bind_some, if_b2, lt_, show ∀ M1, f_X10_in w.toInt64 0 60 M1 = some (b2 (wi 0 60 w)) from fun M1 => m_within]
  by_cases h1 : isS n v = true
  · by_cases h2 : wi 0 60 w = true
    · obtain ⟨s, hs, rfl⟩ := isS_true hn h1
      obtain ⟨m, rfl, -, hm⟩ := wi_true (lo := 0) (hi := 60) h2 (by decide)
      obtain ⟨M1, e1, A1, S1, N1⟩ := c_lay hN
      obtain ⟨M2, e2, A2, S2⟩ := c_on oR N1.2.1 S1 ok hm
      have A12 := A1.tr A2
      have N2 := Now_c hN A12
      obtain ⟨M3, e3, A3, S3, o3⟩ := m_lay hn N2.2.2.2.2.2.1
      obtain ⟨M4, e4, A4, S4, o4⟩ := m_goOn (mR_alk N2.2.2.1 A3 (fun b _ e => by omega)) oR S3 (mT_alk N2.2.2.2.2.2.2 A3 (by omega)) (by decide) (okS_B ok) hm
      refine ⟨nI (itr n (2 ^ n - 1) vo ra ki se go no he m s), M2, M4, ?_, ?_, Inv_m (Inv_c hI A12) ((QM.of4 A3 o3).tr (QM.of A4 o4))⟩
      · rw [if_pos h1, if_pos h2, e1]
        simp only [Option.bind_some]
        rw [e2]
        simp only [Option.bind_some]
        rw [if_gd (show s < 6 by omega) (by decide), tn_nI (by omega), S2.2.2.1 s hs]
        rfl
      · rw [m_isSinger N2.2.2.1.2.2.2 hn]
        simp only [Option.bind_some, if_b2]
        rw [if_pos h1, if_pos h2, e3]
        simp only [Option.bind_some]
        rw [e4]
        simp only [Option.bind_some]
        have g := S4.2.2.1 s hs
        rw [show 20 * 1 + 12 + s = 32 + s by omega] at g
        rw [show (32 : Int32) + nI s = nI (32 + s) from nI_add 32 s, if_gd (show 32 + s < 40 by omega) (by decide), tn_nI (by omega), g, itA_63 hn, itA_full m s hs]
    · refine ⟨-2, M, M, by rw [if_pos h1, if_neg h2], ?_, hI⟩
      rw [m_isSinger hmR.2.2.2 hn]
      simp only [Option.bind_some, if_b2]
      rw [if_pos h1, if_neg h2]
  · refine ⟨-1, M, M, by rw [if_neg h1], ?_, hI⟩
    rw [m_isSinger hmR.2.2.2 hn]
    simp only [Option.bind_some, if_b2]
    rw [if_neg h1]
theorem rich_full {n : Nat} {n1 n2 : Nat → Nat} (h : ∀ i, i < n → n1 i = n2 i) : rich (2 ^ n - 1) n1 = rich (2 ^ n - 1) n2 := rich_congr (fun i hb => h i (tb_lt (full_lt n) hb))
theorem op_notes (w : Int32) : Op (f_X9_notes w) (f_X10_notes w) := by
  intro M hI
  obtain ⟨⟨n, vo, ra, ki, se, go, no, he, ba, hN, -, -⟩, -, -, -⟩ := id hI
  obtain ⟨oR, hcR, hmR, ok, hcS, hmS, hTh⟩ := id hN
  have hn := oR.1
  unfold f_X9_notes f_X9_notes_23 f_X2_richnessBehind f_X10_notes
  rw [show f_X9_isWithin w 0 60 M = some (b2 (wi 0 60 w)) from c_within]
  simp only [Option.bind_some, if_b2, show ∀ M1, f_X10_in w.toInt64 0 60 M1 = some (b2 (wi 0 60 w)) from fun M1 => m_within]
  by_cases h2 : wi 0 60 w = true
  · obtain ⟨m, rfl, -, hm⟩ := wi_true (lo := 0) (hi := 60) h2 (by decide)
    obtain ⟨M1, e1, A1, S1, N1⟩ := c_lay hN
    obtain ⟨M2, e2, A2, S2⟩ := c_on oR N1.2.1 S1 ok hm
    have A12 := A1.tr A2
    have N2 := Now_c hN A12
    obtain ⟨M3, e3, A3, S3, o3⟩ := m_lay hn N2.2.2.2.2.2.1
    obtain ⟨M4, e4, A4, S4, o4⟩ := m_goOn (mR_alk N2.2.2.1 A3 (fun b _ e => by omega)) oR S3 (mT_alk N2.2.2.2.2.2.2 A3 (by omega)) (by decide) (okS_B ok) hm
    refine ⟨nI (rich (2 ^ n - 1) (itr n (2 ^ n - 1) vo ra ki se go no he m)), M2, M4, ?_, ?_, Inv_m (Inv_c hI A12) ((QM.of4 A3 o3).tr (QM.of A4 o4))⟩
    · rw [if_pos h2, e1]
      simp only [Option.bind_some]
      rw [e2]
      simp only [Option.bind_some]
      rw [c_richness S2 (okS_itr oR ok m) hn]
      rfl
    · rw [if_pos h2, e3]
      simp only [Option.bind_some]
      rw [e4]
      simp only [Option.bind_some]
      have := m_count (k := fun q6 => some (q6, M4)) (mR_alk (mR_alk N2.2.2.1 A3 (fun b _ e => by omega)) A4 (fun b _ e => by omega)) hn S4 (mT_alk (mT_alk N2.2.2.2.2.2.2 A3 (by omega)) A4 (by omega)) (fun i hi => ((okB_itA oR (okS_B ok) m).1 i hi).2.2) (by decide)
      rw [show nI 1 = (1 : Int32) from rfl] at this
      rw [this, itA_63 hn, rich_full (fun i hi => itA_full m i hi)]
  · exact ⟨-2, M, M, by rw [if_neg h2], by rw [if_neg h2], hI⟩
