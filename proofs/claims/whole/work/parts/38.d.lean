theorem act_fin {M M1 M2 M3 M4 : Mem} {n nx ac : Nat} {vo ra ki se go no se' go' no' : Nat → Nat} {he ba he' ba' : Nat} (hI : Inv M) (hN : Now M n vo ra ki se go no he ba) (hSh : Shf M n) (r1 : nx < 14) (r2 : ac ≤ 14) (r7 : ∀ j, j < 14 → (nx + 13 - j) % 14 < ac → Slo M n (2 + j) 8 (20 * j))
    (A1 : Alk (fun a b => (a = 2 + nx ∧ b < 4) ∨ (a = 21 ∧ b = 0)) M M1) (S1 : cS M1 (2 + nx) n (2 ^ n - 1) se go no he ba) (x1 : M1.1 21 0 1 = nI ((nx + 1) % 14)) (y1 : M1.1 21 0 2 = nI (min (ac + 1) 14))
    (A2 : Alk (fun a b => a = 0) M1 M2) (S2 : cS M2 0 n (2 ^ n - 1) se' go' no' he' ba')
    (A3 : Alk (fun a b => a = 27 ∧ (b = 8 ∨ b = 0)) M2 M3) (k1 : ∀ k, k < 20 → M3.1 27 8 (20 * nx + k) = M2.1 27 4 k) (k2 : ∀ k, (k < 20 * nx ∨ 20 * nx + 20 ≤ k) → M3.1 27 8 k = M2.1 27 8 k) (k3 : ∀ k, k ≠ 14 → k ≠ 15 → M3.1 27 0 k = M2.1 27 0 k) (k4 : M3.1 27 0 15 = nI ((nx + 1) % 14)) (k5 : M3.1 27 0 14 = nI (min (ac + 1) 14))
    (A4 : Alk (fun a b => a = 27 ∧ (b = 4 ∨ b = 7)) M3 M4) (S4 : mS M4 0 n se' go' no' he' ba') (ok2 : okS n (2 ^ n - 1) se' go' no' he') : Inv M4 := by
  have A12 : Alk (fun a b => a = 0 ∨ a = 2 + nx ∨ a = 21) M M2 := (A1.wk (fun a b e => by omega)).tr (A2.wk (fun a b e => by omega))
  have B : Alk (fun a b => a = 27 ∧ (b = 8 ∨ b = 0 ∨ b = 4 ∨ b = 7)) M2 M4 := (A3.wk (fun a b e => by omega)).tr (A4.wk (fun a b e => by omega))
  exact act_inv hI hN hSh r1 r2 r7 (fun a b e => by rw [B.1 a b (by omega), A12.1 a b (by omega)]) (fun b e => by rw [B.1 27 b (by omega), A12.1 27 b (by omega)]) (fun k h1 h2 => by rw [A4.1 27 0 (by omega), k3 k h1 h2, A12.1 27 0 (by omega)]) (by rw [B.2, A12.2]) (cS_eq S1 (fun b _ => by rw [B.1 _ b (by omega), A2.1 _ b (by omega)])) (fun k hk => by rw [A4.1 27 8 (by omega), k1 k hk, A12.1 27 4 (by omega)]) (fun k hk => by rw [A4.1 27 8 (by omega), k2 k hk, A12.1 27 8 (by omega)]) (by rw [B.1 21 0 (by omega), A2.1 21 0 (by omega)]; exact x1) (by rw [B.1 21 0 (by omega), A2.1 21 0 (by omega)]; exact y1) (by rw [A4.1 27 0 (by omega)]; exact k4) (by rw [A4.1 27 0 (by omega)]; exact k5) ok2 (cS_eq S2 (fun b _ => B.1 0 b (by omega))) S4
theorem mS_congr {M : Mem} {lv n : Nat} {se go no no' : Nat → Nat} {he ba : Nat} (h : mS M lv n se go no he ba) (e : ∀ i, i < n → no i = no' i) : mS M lv n se go no' he ba := ⟨h.1, h.2.1, fun i hi => by rw [← e i hi]; exact h.2.2.1 i hi, h.2.2.2⟩
/-- the reference's count of notes, everybody there -/
theorem m_count {M : Mem} {lv n : Nat} {vo ra ki se go no : Nat → Nat} {he ba : Nat} {α : Type} {k : Int32 → Option α} (hR : mR M n vo ra ki) (hn : n ≤ 6) (h : mS M lv n se go no he ba) (hT : mT M 63) (hno : ∀ i, i < n → no i < 10) (hlv : lv ≤ 1) : (f_X10_notesOn (nI lv) M).bind (fun q => (f_X10_ones q M).bind k) = k (nI (rich (2 ^ n - 1) no)) := by
  rw [m_notesOn hR hn h hT (by decide) hno hlv, msk_63 hn, msk6 hn (full_lt n)]
  simp only [Option.bind_some]
  rw [m_ones (by have : mskF (fun i => Nat.testBit (2 ^ n - 1) i) no 6 < 2 ^ 10 := mskF_lt (fun i _ hp => hno i (tb_lt (full_lt n) hp)); omega)]
  rfl
theorem op_bar : Op f_X9_bar f_X10_bar := by
  intro M hI
  obtain ⟨⟨n, vo, ra, ki, se, go, no, he, ba, hN, ⟨nx, ac, r1, r2, r3, r4, r5, r6, r7⟩, hSh⟩, hH, hT, hsd⟩ := id hI
  obtain ⟨oR, hcR, hmR, ok, hcS, hmS, hTh⟩ := id hN
  have hn := oR.1
  obtain ⟨M1, e1, A1, S1, x1, y1⟩ := c_remember hcS hn r1 r2 r3 r4
  obtain ⟨M2', e2, A2', S2'⟩ := c_goOn (m := 1) (cR_alk hcR A1 (fun b e => by omega)) oR (cS_alk hcS A1 (fun b _ e => by omega)) ok (by decide) (by decide)
  obtain ⟨no', hno'⟩ : ∃ f, f = itr n (2 ^ n - 1) vo ra ki se go no he 1 := ⟨_, rfl⟩
  rw [← hno'] at S2'
  have ok2 : okS n (2 ^ n - 1) se go no' he := by rw [hno']; exact okS_itr oR ok 1
  obtain ⟨M2, hM2⟩ : ∃ M2, M2 = sw M2' 0 0 7 (nI (ba + 1)) := ⟨_, rfl⟩
  have A2 : Alk (fun a b => a = 0) M1 M2 := (A2'.wk (fun a b e => by omega)).tr (by rw [hM2]; exact Alk.sw (by rfl))
  have S2 : cS M2 0 n (2 ^ n - 1) se go no' he (ba + 1) := by
    rw [hM2]
    refine ⟨?_, ?_, ?_, ?_, ?_, ?_⟩
    · rw [sw_ne (by omega)]; exact S2'.1
    · rw [sw_ne (by omega)]; exact S2'.2.1
    · rw [sw_ne (by omega)]; exact S2'.2.2.1
    · rw [sw_same, upd_ne (by decide)]; exact S2'.2.2.2.1
    · rw [sw_same, upd_ne (by decide)]; exact S2'.2.2.2.2.1
    · rw [sw_same, upd_same]
  have A12 : Alk (fun a b => a = 0 ∨ a = 2 + nx ∨ a = 21) M M2 := (A1.wk (fun a b e => by omega)).tr (A2.wk (fun a b e => by omega))
  have mR2 := mR_alk hmR A12 (fun b _ e => by omega)
  have mS2 := mS_alk hmS A12 (by omega)
  obtain ⟨M3, e3, A3, k1, k2, k3, k4, k5⟩ := m_keepAct (M := M2) r1 r2 (by rw [A12.1 27 0 (by omega)]; exact r5) (by rw [A12.1 27 0 (by omega)]; exact r6)
  have mR3 : mR M3 n vo ra ki := by unfold mR; rw [A3.1 27 1 (by omega), A3.1 27 2 (by omega), A3.1 27 3 (by omega), k3 0 (by decide) (by decide)]; exact mR2
  have mT3 : mT M3 63 := by unfold mT; rw [k3 12 (by decide) (by decide), A12.1 27 0 (by omega)]; exact hTh
  obtain ⟨M4, e4, A4, S4, o4⟩ := m_passOn (lv := 0) mR3 oR (mS_alk mS2 A3 (by omega)) mT3 (by decide) (okS_B ok) (by decide)
  have S4 : mS M4 0 n se go no' he (ba + 1) := mS_congr S4 (fun i hi => by rw [nxA_63 hn, hno']; exact itA_full (n := n) (vo := vo) (ra := ra) (ki := ki) (se := se) (go := go) (no := no) (he := he) 1 i hi)
  refine ⟨nI (rich (2 ^ n - 1) no'), M2, M4, ?_, ?_, act_fin hI hN hSh r1 r2 r7 A1 S1 x1 y1 A2 S2 A3 k1 k2 k3 k4 k5 A4 S4 ok2⟩
  · unfold f_X9_bar
    rw [e1]
    simp only [Option.bind_some]
    rw [show (1 : Int32) = nI 1 from rfl, e2]
    simp only [Option.bind_some, lt_]
    rw [S2'.2.2.2.2.2, nI_add, ← hM2, c_richness S2 ok2 hn]
    rfl
  · unfold f_X10_bar
    rw [e3]
    simp only [Option.bind_some]
    rw [show (0 : Int32) = nI 0 from rfl, e4]
    simp only [Option.bind_some]
    exact m_count (mR_alk mR3 A4 (fun b _ e => by omega)) hn S4 (mT_alk mT3 A4 (by omega)) (fun i hi => (ok2.2.1 i hi).2.2) (by decide)
theorem okS_give {n th s k : Nat} {se go no : Nat → Nat} {he : Nat} (ok : okS n th se go no he) : okS n th se (giveF go s k) no he := by
  refine ⟨ok.1, fun i hi => ⟨(ok.2.1 i hi).1, ?_, (ok.2.1 i hi).2.2⟩, ok.2.2⟩
  unfold giveF
  split
  · omega
  · exact (ok.2.1 i hi).2.1
theorem okS_swap {n th a b : Nat} {se go no : Nat → Nat} {he : Nat} (ok : okS n th se go no he) (ha : a < n) (hb : b < n) : okS n th (swF se a b) go no he := by
  refine ⟨ok.1, fun i hi => ⟨?_, (ok.2.1 i hi).2.1, (ok.2.1 i hi).2.2⟩, ok.2.2⟩
  unfold swF
  split
  · exact (ok.2.1 a ha).1
  · split
    · exact (ok.2.1 b hb).1
    · exact (ok.2.1 i hi).1
theorem op_gift (v w : Int32) : Op (f_X9_gift v w) (f_X10_gift v w) := by
  intro M hI
  obtain ⟨⟨n, vo, ra, ki, se, go, no, he, ba, hN, ⟨nx, ac, r1, r2, r3, r4, r5, r6, r7⟩, hSh⟩, hH, hT, hsd⟩ := id hI
  obtain ⟨oR, hcR, hmR, ok, hcS, hmS, hTh⟩ := id hN
  have hn := oR.1
  have w2 : ∀ M1, f_X10_in w.toInt64 1 9 M1 = some (b2 (wi 1 9 w)) := fun M1 => m_within
  have c2 : ∀ M1, f_X9_isWithin w 1 9 M1 = some (b2 (wi 1 9 w)) := fun M1 => c_within
  unfold f_X9_gift f_X10_gift
  rw [c_isSinger hcS.2.2.2.1 hn, c2]
  simp only [Option.bind_some, if_b2, w2, lt_]
  by_cases h1 : isS n v = true
  · by_cases h2 : wi 1 9 w = true
    · obtain ⟨s, hs, rfl⟩ := isS_true hn h1
      obtain ⟨k, rfl, -, hk⟩ := wi_true (lo := 1) (hi := 9) h2 (by decide)
      obtain ⟨M1, e1, A1, S1, x1, y1⟩ := c_remember hcS hn r1 r2 r3 r4
      obtain ⟨M2, e2, A2, S2⟩ := c_give (k := k) (cS_alk hcS A1 (fun b _ e => by omega)) hn hs (ok.2.1 s hs).2.1 (by omega)
      have ok2 := okS_give (s := s) (k := k) ok
      have A12 : Alk (fun a b => a = 0 ∨ a = 2 + nx ∨ a = 21) M M2 := (A1.wk (fun a b e => by omega)).tr (A2.wk (fun a b e => by omega))
      have mR2 := mR_alk hmR A12 (fun b _ e => by omega)
      obtain ⟨M3, e3, A3, k1, k2, k3, k4, k5⟩ := m_keepAct (M := M2) r1 r2 (by rw [A12.1 27 0 (by omega)]; exact r5) (by rw [A12.1 27 0 (by omega)]; exact r6)
      obtain ⟨M4, e4, A4, S4, o4⟩ := m_give (lv := 0) (k := k) (mS_alk (mS_alk hmS A12 (by omega)) A3 (by omega)) hn (by decide) hs (ok.2.1 s hs).2.1 (by omega)
      refine ⟨nI (giveF go s k s), M2, M4, ?_, ?_, act_fin hI hN hSh r1 r2 r7 A1 S1 x1 y1 (A2.wk (fun a b e => e.1)) S2 A3 k1 k2 k3 k4 k5 (A4.wk (fun a b e => by omega)) S4 ok2⟩
      · rw [if_pos h1, if_pos h2, e1]
        simp only [Option.bind_some]
        rw [e2]
        simp only [Option.bind_some]
        rw [if_gd (show s < 6 by omega) (by decide), tn_nI (by omega), S2.2.1 s hs]
      · rw [m_isSinger mR2.2.2.2 hn]
        simp only [Option.bind_some, if_b2]
        rw [if_pos h1, if_pos h2, e3]
        simp only [Option.bind_some]
        rw [show f_X10_giveOn 0 (nI s) (nI k) M3 = some M4 from e4]
        simp only [Option.bind_some]
        have g6 := S4.2.1 s hs
        rw [show 20 * 0 + 6 + s = 6 + s by omega] at g6
        rw [show (6 : Int32) + nI s = nI (6 + s) from nI_add 6 s, if_gd (show 6 + s < 40 by omega) (by decide), tn_nI (by omega), g6]
    · refine ⟨-2, M, M, by rw [if_pos h1, if_neg h2], ?_, hI⟩
      rw [m_isSinger hmR.2.2.2 hn]
      simp only [Option.bind_some, if_b2]
      rw [if_pos h1, if_neg h2]
  · refine ⟨-1, M, M, by rw [if_neg h1], ?_, hI⟩
    rw [m_isSinger hmR.2.2.2 hn]
    simp only [Option.bind_some, if_b2]
    rw [if_neg h1]
theorem op_change (v w : Int32) : Op (f_X9_change v w) (f_X10_change v w) := by
  intro M hI
  obtain ⟨⟨n, vo, ra, ki, se, go, no, he, ba, hN, ⟨nx, ac, r1, r2, r3, r4, r5, r6, r7⟩, hSh⟩, hH, hT, hsd⟩ := id hI
  obtain ⟨oR, hcR, hmR, ok, hcS, hmS, hTh⟩ := id hN
  have hn := oR.1
  unfold f_X9_change f_X9_change_22 f_X10_change f_X10_change_16
  rw [c_isSinger hcS.2.2.2.1 hn, c_isSinger hcS.2.2.2.1 hn]
  simp only [Option.bind_some, if_b2]
  by_cases h1 : isS n v = true
  · by_cases h2 : isS n w = true
    · by_cases h3 : v = w
      · refine ⟨-2, M, M, by rw [if_pos h1, if_pos h2, if_pos h3], ?_, hI⟩
        rw [m_isSinger hmR.2.2.2 hn, m_isSinger hmR.2.2.2 hn]
        simp only [Option.bind_some, if_b2]
        rw [if_pos h1, if_pos h2, if_pos h3]
      · obtain ⟨a, ha, rfl⟩ := isS_true hn h1
        obtain ⟨b, hb, rfl⟩ := isS_true hn h2
        obtain ⟨M1, e1, A1, S1, x1, y1⟩ := c_remember hcS hn r1 r2 r3 r4
        obtain ⟨M2, e2, A2, S2⟩ := c_swap (cS_alk hcS A1 (fun b _ e => by omega)) hn ha hb
        have ok2 := okS_swap ok ha hb
        have A12 : Alk (fun a b => a = 0 ∨ a = 2 + nx ∨ a = 21) M M2 := (A1.wk (fun a b e => by omega)).tr (A2.wk (fun a b e => by omega))
        have mR2 := mR_alk hmR A12 (fun b _ e => by omega)
        obtain ⟨M3, e3, A3, k1, k2, k3, k4, k5⟩ := m_keepAct (M := M2) r1 r2 (by rw [A12.1 27 0 (by omega)]; exact r5) (by rw [A12.1 27 0 (by omega)]; exact r6)
        obtain ⟨M4, e4, A4, S4, o4⟩ := m_swap (lv := 0) (mS_alk (mS_alk hmS A12 (by omega)) A3 (by omega)) hn (by decide) ha hb
        refine ⟨nI (swF se a b a), M2, M4, ?_, ?_, act_fin hI hN hSh r1 r2 r7 A1 S1 x1 y1 (A2.wk (fun a b e => e.1)) S2 A3 k1 k2 k3 k4 k5 (A4.wk (fun a b e => by omega)) S4 ok2⟩
        · rw [if_pos h1, if_pos h2, if_neg h3, e1]
          simp only [Option.bind_some]
          rw [e2]
          simp only [Option.bind_some]
          rw [if_gd (show a < 6 by omega) (by decide), tn_nI (by omega), S2.1 a ha]
        · rw [m_isSinger mR2.2.2.2 hn, m_isSinger mR2.2.2.2 hn]
          simp only [Option.bind_some, if_b2]
          rw [if_pos h1, if_pos h2, if_neg h3, e3]
          simp only [Option.bind_some]
          rw [show f_X10_changeOn 0 (nI a) (nI b) M3 = some M4 from e4]
          simp only [Option.bind_some]
          have g0 := S4.1 a ha
          rw [show 20 * 0 + a = a by omega] at g0
          rw [if_gd (show a < 40 by omega) (by decide), tn_nI (by omega), g0]
    · refine ⟨-1, M, M, by rw [if_pos h1, if_neg h2], ?_, hI⟩
      rw [m_isSinger hmR.2.2.2 hn, m_isSinger hmR.2.2.2 hn]
      simp only [Option.bind_some, if_b2]
      rw [if_pos h1, if_neg h2]
  · refine ⟨-1, M, M, by rw [if_neg h1], ?_, hI⟩
    rw [m_isSinger hmR.2.2.2 hn]
    simp only [Option.bind_some, if_b2]
    rw [if_neg h1]
theorem bit_b2 {m s : Nat} (hm : m < 2 ^ 31) (hs : s < 32) : ((nI m >>> (nI s &&& 31)) &&& (1 : Int32)) = b2 (m.testBit s) := by
  rw [bt_val hm hs, b2_nI, Nat.testBit_eq_decide_div_mod_eq]
  have : m / 2 ^ s % 2 = 0 ∨ m / 2 ^ s % 2 = 1 := by omega
  rcases this with e | e <;> rw [e] <;> rfl
theorem op_hold (v : Int32) : Op (f_X9_hold v) (f_X10_hold v) := by
  intro M hI
  obtain ⟨⟨n, vo, ra, ki, se, go, no, he, ba, hN, ⟨nx, ac, r1, r2, r3, r4, r5, r6, r7⟩, hSh⟩, hH, hT, hsd⟩ := id hI
  obtain ⟨oR, hcR, hmR, ok, hcS, hmS, hTh⟩ := id hN
  have hn := oR.1
  have i18 : ¬ ((18 : Int32) < 0 ∨ 40 ≤ (18 : Int32).toNatClampNeg) := by decide
  have j18 : (18 : Int32).toNatClampNeg = 18 := by decide
  unfold f_X9_hold f_X9_hold_48 f_X10_hold
  rw [c_isSinger hcS.2.2.2.1 hn]
  simp only [Option.bind_some, if_b2, if_pos i18, lt_]
  simp only [j18]
  by_cases h1 : isS n v = true
  · obtain ⟨s, hs, rfl⟩ := isS_true hn h1
    obtain ⟨M1, e1, A1, S1, x1, y1⟩ := c_remember hcS hn r1 r2 r3 r4
    obtain ⟨M2, e2, A2, S2⟩ := c_turn (s := s) (cS_alk hcS A1 (fun b _ e => by omega)) (by omega)
    have hx := xor_lt (s := s) ok.2.2 (by omega)
    have ok2 : okS n (2 ^ n - 1) se go no (he ^^^ 2 ^ s) := ⟨ok.1, ok.2.1, hx⟩
    have A12 : Alk (fun a b => a = 0 ∨ a = 2 + nx ∨ a = 21) M M2 := (A1.wk (fun a b e => by omega)).tr (A2.wk (fun a b e => by omega))
    have mR2 := mR_alk hmR A12 (fun b _ e => by omega)
    obtain ⟨M3, e3, A3, k1, k2, k3, k4, k5⟩ := m_keepAct (M := M2) r1 r2 (by rw [A12.1 27 0 (by omega)]; exact r5) (by rw [A12.1 27 0 (by omega)]; exact r6)
    have mS3 := mS_alk (mS_alk hmS A12 (by omega)) A3 (by omega)
    have g18 := mS3.2.2.2.1
    rw [show 20 * 0 + 18 = 18 from rfl] at g18
    obtain ⟨M4, hM4⟩ : ∃ M4, M4 = sw M3 27 4 18 (nI (he ^^^ 2 ^ s)) := ⟨_, rfl⟩
    have S4 : mS M4 0 n se go no (he ^^^ 2 ^ s) ba := by
      rw [hM4]
      refine ⟨fun i hi => ?_, fun i hi => ?_, fun i hi => ?_, ?_, ?_⟩
      · rw [sw_same, upd_ne (by omega)]; exact mS3.1 i hi
      · rw [sw_same, upd_ne (by omega)]; exact mS3.2.1 i hi
      · rw [sw_same, upd_ne (by omega)]; exact mS3.2.2.1 i hi
      · rw [sw_same]; exact upd_same
      · rw [sw_same, upd_ne (by omega)]; exact mS3.2.2.2.2
    refine ⟨b2 ((he ^^^ 2 ^ s).testBit s), M2, M4, ?_, ?_, act_fin hI hN hSh r1 r2 r7 A1 S1 x1 y1 (A2.wk (fun a b e => e.1)) S2 A3 k1 k2 k3 k4 k5 (by rw [hM4]; exact Alk.sw (by omega)) S4 ok2⟩
    · rw [if_pos h1, e1]
      simp only [Option.bind_some]
      rw [e2]
      simp only [Option.bind_some]
      rw [c_isHeldOn S2.2.2.2.2.1 hx (by omega)]
      simp only [Option.bind_some, if_b2]
      cases (he ^^^ 2 ^ s).testBit s <;> rfl
    · rw [m_isSinger mR2.2.2.2 hn]
      simp only [Option.bind_some, if_b2]
      rw [if_pos h1, e3]
      simp only [Option.bind_some]
      rw [g18, shl1 (by omega), nI_xor, ← hM4]
      have : M4.1 27 4 18 = nI (he ^^^ 2 ^ s) := S4.2.2.2.1
      rw [this, bit_b2 (by omega) (by omega)]
  · refine ⟨-1, M, M, by rw [if_neg h1], ?_, hI⟩
    rw [m_isSinger hmR.2.2.2 hn]
    simp only [Option.bind_some, if_b2]
    rw [if_neg h1]
theorem mX_mS {M M' : Mem} {b pl n : Nat} {se go no : Nat → Nat} {he ba : Nat} (h : mX M b pl n se go no he ba) (hn : n ≤ 6) (e : ∀ k, k < 20 → M'.1 27 4 k = M.1 27 b (pl + k)) : mS M' 0 n se go no he ba := by
  refine ⟨fun i hi => ?_, fun i hi => ?_, fun i hi => ?_, ?_, ?_⟩
  · rw [show 20 * 0 + i = i by omega, e i (by omega)]; exact h.1 i hi
  · rw [show 20 * 0 + 6 + i = 6 + i by omega, e _ (by omega), ← Nat.add_assoc]; exact h.2.1 i hi
  · rw [show 20 * 0 + 12 + i = 12 + i by omega, e _ (by omega), ← Nat.add_assoc]; exact h.2.2.1 i hi
  · exact (e 18 (by omega)).trans h.2.2.2.1
  · exact (e 19 (by omega)).trans h.2.2.2.2
/-- twenty places are laid from elsewhere to the first level -/
def wb (M : Mem) (X : Nat → Int32) : Nat → Mem := wr M 4 0 X
theorem op_undo : Op f_X9_undo f_X10_undo := by
  intro M hI
  obtain ⟨⟨n, vo, ra, ki, se, go, no, he, ba, hN, ⟨nx, ac, r1, r2, r3, r4, r5, r6, r7⟩, ⟨fl, s1, s2, s3⟩⟩, hH, hT, hsd⟩ := id hI
  obtain ⟨oR, hcR, hmR, ok, hcS, hmS, hTh⟩ := id hN
  have hn := oR.1
  unfold f_X9_undo f_X9_undo_26 f_X0_giveBack f_X10_undo
  by_cases h0 : ac = 0
  · refine ⟨-3, M, M, ?_, ?_, hI⟩
    · rw [r4, h0]; rfl
    · rw [r6, h0]; rfl
  · have n0 : ¬ nI ac = 0 := nI_ne0 (by omega) (by omega)
    obtain ⟨px, hpx, hpx2⟩ : ∃ px, px < 14 ∧ px = (nx + 13) % 14 := ⟨(nx + 13) % 14, by omega, rfl⟩
    obtain ⟨se', go', no', he', ba', ok', c', m'⟩ := r7 px hpx (by omega)
    obtain ⟨M1, hM1⟩ : ∃ M1, M1 = sw (sw M 21 0 1 (nI px)) 21 0 2 (nI (ac - 1)) := ⟨_, rfl⟩
    have A1 : Alk (fun a b => a = 21 ∧ b = 0) M M1 := by rw [hM1]; exact (Alk.sw ⟨rfl, rfl⟩).tr (Alk.sw ⟨rfl, rfl⟩)
    obtain ⟨M2, e2, A2, S2⟩ := c_copy (M := M1) (o := 0) (o1 := 2 + px) (by omega) (cS_alk c' A1 (fun b _ e => by omega)) hn
    have e28 : f_X0_giveBack_28 0 (nI px) M = some (1, M2) := by
      unfold f_X0_giveBack_28
      simp only [lt_]
      rw [sw_same (M := M), upd_ne (by decide), r4, show nI ac - 1 = nI (ac - 1) from pk_sub (a := ac) (b := 1) (by omega), ← hM1]
      have : M1.1 21 0 1 = nI px := by rw [hM1, sw_same, upd_ne (by decide), sw_same, upd_same]
      rw [this, if_gd hpx (by decide), tn_nI (by omega), e2]
      rfl
    have A12 : Alk (fun a b => a = 0 ∨ (a = 21 ∧ b = 0)) M M2 := (A1.wk (fun a b e => by omega)).tr (A2.wk (fun a b e => by omega))
    obtain ⟨M3, hM3⟩ : ∃ M3, M3 = sw (sw M2 27 0 14 (nI (ac - 1))) 27 0 15 (nI px) := ⟨_, rfl⟩
    have A3 : Alk (fun a b => a = 27 ∧ b = 0) M2 M3 := by rw [hM3]; exact (Alk.sw ⟨rfl, rfl⟩).tr (Alk.sw ⟨rfl, rfl⟩)
    obtain ⟨X, hX⟩ : ∃ X : Nat → Int32, X = fun i => M3.1 27 8 (20 * px + i) := ⟨_, rfl⟩
    obtain ⟨M4, hM4⟩ : ∃ M4, M4 = wr M3 4 0 X 20 := ⟨_, rfl⟩
    have A4 : Alk (fun a b => a = 27 ∧ b = 4) M3 M4 := by rw [hM4]; exact wr_alk 20
    have x15 : M3.1 27 0 15 = nI px := by rw [hM3, sw_same, upd_same]
    have x14 : M3.1 27 0 14 = nI (ac - 1) := by rw [hM3, sw_same, upd_ne (by decide), sw_same, upd_same]
    have e36 : f_X10_undo_36 100 0 M3 = some (nI (ac - 1), M4) := by
      rw [hM4]
      refine loopF (fun f i (M1 : Mem) => f_X10_undo_36 f (nI i) M1) 20 (fun k => wr M3 4 0 X k) _ ?_ ?_ 100 (by omega)
      · intro f i hi
        have hA := wr_alk (M := M3) (b := 4) (pl := 0) (X := X) i
        show f_X10_undo_36 (f + 1) (nI i) (wr M3 4 0 X i) = f_X10_undo_36 f (nI (i + 1)) (sw (wr M3 4 0 X i) 27 4 (0 + i) (X i))
        rw [f_X10_undo_36, if_neg (show ¬ (20 : Int32) ≤ nI i from fun q => absurd ((nI_leI (a := 20) (by decide) (by omega)).mp q) (by omega))]
        simp only [lt_, nI_add1]
        rw [hA.1 27 0 (by omega), x15, ix20, if_gd (show 20 * px + i < 280 by omega) (by decide), if_gd (show i < 40 by omega) (by decide), tn_nI (by omega), tn_nI (by omega), hA.1 27 8 (by omega), Nat.zero_add, hX]
      · intro f
        have hA := wr_alk (M := M3) (b := 4) (pl := 0) (X := X) 20
        show f_X10_undo_36 (f + 1) (nI 20) (wr M3 4 0 X 20) = _
        rw [f_X10_undo_36, if_pos (show (20 : Int32) ≤ nI 20 by decide), hA.1 27 0 (by omega), x14]
    refine ⟨nI (ac - 1), M2, M4, ?_, ?_, ?_⟩
    · rw [r4, if_neg n0, r3]
      have k0 : (nI nx ≤ 0) = (nx ≤ 0) := le_nI (b := 0) (by omega) (by decide)
      have g2 : M2.1 21 0 2 = nI (ac - 1) := by rw [A2.1 21 0 (by omega), hM1, sw_same, upd_same]
      simp only [k0]
      by_cases hz : nx ≤ 0
      · rw [if_pos hz, show (13 : Int32) = nI px from by rw [hpx2, show nx = 0 by omega]; rfl, e28]
        simp only [Option.bind_some]
        rw [if_neg (by decide), g2]
      · rw [if_neg hz, show nI nx - 1 = nI px from by rw [show nI nx - 1 = nI (nx - 1) from pk_sub (a := nx) (b := 1) (by omega), hpx2]; congr 1; omega, e28]
        simp only [Option.bind_some]
        rw [if_neg (by decide), g2]
    · rw [A12.1 27 0 (by omega), r6, if_neg n0]
      simp only [lt_]
      rw [show nI ac - 1 = nI (ac - 1) from pk_sub (a := ac) (b := 1) (by omega), sw_same (M := M2), upd_ne (by decide), A12.1 27 0 (by omega), r5, show nI nx + 13 = nI (nx + 13) from nI_add nx 13, rem14 (by omega), ← hpx2, ← hM3]
      exact e36
    · have B : Alk (fun a b => a = 27 ∧ (b = 0 ∨ b = 4)) M2 M4 := (A3.wk (fun a b e => by omega)).tr (A4.wk (fun a b e => by omega))
      have z0 : ∀ k, k ≠ 14 → k ≠ 15 → M4.1 27 0 k = M.1 27 0 k := fun k h1 h2 => by rw [A4.1 27 0 (by omega), hM3, sw_same, upd_ne h2, sw_same, upd_ne h1, A12.1 27 0 (by omega)]
      refine ⟨⟨n, vo, ra, ki, se', go', no', he', ba', ⟨oR, ?_, ?_, ok', cS_eq S2 (fun b _ => B.1 0 b (by omega)), ?_, ?_⟩, ⟨px, ac - 1, hpx, by omega, ?_, ?_, ?_, ?_, fun j hj hv => ?_⟩, ⟨fl, s1, by rw [B.1 22 0 (by omega), A12.1 22 0 (by omega)]; exact s2, fun i hi => ⟨by rw [B.1 27 13 (by omega), A12.1 27 13 (by omega)]; exact (s3 i hi).1, fun hb => Slo_eq ((s3 i hi).2 hb) (fun x _ => by rw [B.1 _ _ (by omega), A12.1 _ _ (by omega)]) (fun k _ => by rw [B.1 27 14 (by omega), A12.1 27 14 (by omega)]) hn⟩⟩⟩, Hrd_eq hH (fun b => by rw [B.1 23 b (by omega), A12.1 23 b (by omega)]) (fun b e => by rw [B.1 27 b (by omega), A12.1 27 b (by omega)]) (z0 18 (by decide) (by decide)), Txt_eq hT (fun b => by rw [B.1 18 b (by omega), A12.1 18 b (by omega)]) (by rw [B.1 27 6 (by omega), A12.1 27 6 (by omega)]) (z0 9 (by decide) (by decide)), by rw [B.2, A12.2]; exact hsd⟩
      · unfold cR; rw [B.1 19 0 (by omega), B.1 19 1 (by omega), B.1 19 2 (by omega), B.1 19 3 (by omega), A12.1 19 0 (by omega), A12.1 19 1 (by omega), A12.1 19 2 (by omega), A12.1 19 3 (by omega)]; exact hcR
      · unfold mR; rw [B.1 27 1 (by omega), B.1 27 2 (by omega), B.1 27 3 (by omega), z0 0 (by decide) (by decide), A12.1 27 1 (by omega), A12.1 27 2 (by omega), A12.1 27 3 (by omega)]; exact hmR
      · refine mX_mS m' hn (fun k hk => ?_)
        have := wr_at (M := M3) (b := 4) (pl := 0) (X := X) 20 k hk
        rw [Nat.zero_add] at this
        rw [hM4, this, hX]
        show M3.1 27 8 (20 * px + k) = _
        rw [A3.1 27 8 (by omega), A12.1 27 8 (by omega)]
      · unfold mT; rw [z0 12 (by decide) (by decide)]; exact hTh
      · rw [B.1 21 0 (by omega), A2.1 21 0 (by omega), hM1, sw_same, upd_ne (by decide), sw_same, upd_same]
      · rw [B.1 21 0 (by omega), A2.1 21 0 (by omega), hM1, sw_same, upd_same]
      · rw [A4.1 27 0 (by omega)]; exact x15
      · rw [A4.1 27 0 (by omega)]; exact x14
      · exact Slo_eq (r7 j hj (by omega)) (fun x _ => by rw [B.1 _ _ (by omega), A12.1 _ _ (by omega)]) (fun k _ => by rw [B.1 27 8 (by omega), A12.1 27 8 (by omega)]) hn
