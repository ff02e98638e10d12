theorem m_isRest {M : Mem} {n p q a b : Nat} {vo ra ki se go no : Nat → Nat} {he ba : Nat} (hN : Now M n vo ra ki se go no he ba) (hp : p < n) (hq : q < n) (ha : a < n) (hb : b < n) : ∃ M', f_X10_isRest (nI p) (nI q) (nI a) (nI b) M = some (b2 (rstB n (gnF n vo ra ki se go no he p) (gnF n vo ra ki se go no he q) a b), M') ∧ QM M M' := by
  have hn := hN.1.1
  obtain ⟨G, hG⟩ : ∃ G, G = gnF n vo ra ki se go no he p := ⟨_, rfl⟩
  obtain ⟨H, hH⟩ : ∃ H, H = gnF n vo ra ki se go no he q := ⟨_, rfl⟩
  rw [← hG, ← hH]
  have lG : ∀ a b, G a b ≤ n := fun a b => by rw [hG]; exact gn_le
  have lH : ∀ a b, H a b ≤ n := fun a b => by rw [hH]; exact gn_le
  unfold f_X10_isRest
  refine loopE (fun f c (y : Bool × Mem) => f_X10_isRest_6 f (nI p) (nI q) (nI a) (nI b) (b2 y.1) (nI c) y.2) n (fun c y => y.1 = allF (rstP n G H a b) c ∧ QM M y.2) (fun r => ∃ M', r = some (b2 (rstB n G H a b), M') ∧ QM M M') ?_ ?_ n 0 (by omega) 100 (true, M) (by omega) ⟨rfl, QM.rf⟩
  · rintro f c ⟨x, M1⟩ hc ⟨hx, Q1⟩
    simp only at hx Q1
    subst hx
    left
    have N1 := Now_m hN Q1
    have g1 := lG a b
    have g2 := lG c b
    have g3 := lH a b
    have g4 := lH a c
    have step : ∀ (v : Bool) (M5 : Mem), f_X10_isRest_64 (f_X10_isRest_6 f) (nI p) (nI q) (nI a) (nI b) (nI c) (b2 v) M5 = f_X10_isRest_6 f (nI p) (nI q) (nI a) (nI b) (b2 v) (nI (c + 1)) M5 := fun v M5 => by
      unfold f_X10_isRest_64
      rw [lt_, nI_add1]
    have st0 : ∀ M5 : Mem, f_X10_isRest_63 (f_X10_isRest_6 f) (nI p) (nI q) (nI a) (nI b) (nI c) M5 = f_X10_isRest_6 f (nI p) (nI q) (nI a) (nI b) (b2 false) (nI (c + 1)) M5 := step false
    have st1 : ∀ M5 : Mem, f_X10_isRest_64 (f_X10_isRest_6 f) (nI p) (nI q) (nI a) (nI b) (nI c) 1 M5 = f_X10_isRest_6 f (nI p) (nI q) (nI a) (nI b) (b2 true) (nI (c + 1)) M5 := step true
    have main : ∃ M', f_X10_isRest_6 (f + 1) (nI p) (nI q) (nI a) (nI b) (b2 (allF (rstP n G H a b) c)) (nI c) M1 = f_X10_isRest_6 f (nI p) (nI q) (nI a) (nI b) (b2 (allF (rstP n G H a b) c && rstP n G H a b c)) (nI (c + 1)) M' ∧ QM M M' := by
      rw [f_X10_isRest_6, N1.2.2.1.2.2.2, if_neg (nI_ge hc (by omega)), if_b2]
      cases hA : allF (rstP n G H a b) c with
      | false => exact ⟨M1, by rw [if_neg (by decide), st0]; rfl, Q1⟩
      | true =>
        obtain ⟨M2, e2, Q2⟩ := m_gain N1 hp hc hb
        have N2 := Now_m N1 Q2
        obtain ⟨M3, e3, Q3⟩ := m_gain N2 hp ha hb
        have N3 := Now_m N2 Q3
        obtain ⟨M4, e4, Q4⟩ := m_gain N3 hq ha hc
        have N4 := Now_m N3 Q4
        obtain ⟨M5, e5, Q5⟩ := m_gain N4 hq ha hb
        rw [← hG] at e2 e3
        rw [← hH] at e4 e5
        have k1 : (nI (G a b) < nI (G c b)) = (G a b < G c b) := lt_nI (by omega) (by omega)
        have k2 : (nI (H a b) < nI (H a c)) = (H a b < H a c) := lt_nI (by omega) (by omega)
        rw [if_pos rfl, e2]
        simp only [Option.bind_some]
        rw [e3]
        simp only [Option.bind_some, k1]
        by_cases c1 : G a b < G c b
        · refine ⟨M3, ?_, (Q1.tr Q2).tr Q3⟩
          rw [if_pos c1, st0, show rstP n G H a b c = false from by unfold rstP; simp; omega]
          rfl
        · rw [if_neg c1, e4]
          simp only [Option.bind_some]
          rw [e5]
          simp only [Option.bind_some, k2]
          refine ⟨M5, ?_, (((Q1.tr Q2).tr Q3).tr Q4).tr Q5⟩
          by_cases c2 : H a b < H a c
          · rw [if_pos c2, st0, show rstP n G H a b c = false from by unfold rstP; simp; omega]
            rfl
          · rw [if_neg c2, st1, show rstP n G H a b c = true from by unfold rstP; simp; omega]
            rfl
    obtain ⟨M', e', Q'⟩ := main
    exact ⟨(allF (rstP n G H a b) (c + 1), M'), e', rfl, Q'⟩
  · rintro f ⟨x, M1⟩ ⟨hx, Q1⟩
    simp only at hx Q1
    subst hx
    refine ⟨M1, ?_, Q1⟩
    show f_X10_isRest_6 (f + 1) (nI p) (nI q) (nI a) (nI b) (b2 (allF (rstP n G H a b) n)) (nI n) M1 = _
    rw [f_X10_isRest_6, (Now_m hN Q1).2.2.1.2.2.2, if_pos (nI_le (Nat.le_refl n) (by omega)), if_pos (b2_01 _)]
    rfl
theorem m_rests {M : Mem} {n p q w : Nat} {vo ra ki se go no : Nat → Nat} {he ba : Nat} (hN : Now M n vo ra ki se go no he ba) (hp : p < n) (hq : q < n) (hw : w < 2) {r : Int32} (hr : r = if w = 0 then nI (rtF n (gnF n vo ra ki se go no he p) (gnF n vo ra ki se go no he q) (n * n)).1 else (rtF n (gnF n vo ra ki se go no he p) (gnF n vo ra ki se go no he q) (n * n)).2) : ∃ M', f_X10_rests_46 100 (nI p) (nI q) (nI w) 0 (-9) 0 M = some (r, M') ∧ QM M M' := by
  have hn := hN.1.1
  obtain ⟨G, hG⟩ : ∃ G, G = gnF n vo ra ki se go no he p := ⟨_, rfl⟩
  obtain ⟨H, hH⟩ : ∃ H, H = gnF n vo ra ki se go no he q := ⟨_, rfl⟩
  rw [← hG, ← hH] at hr
  have kw : (nI w = 0) = (w = 0) := eq_nI (b := 0) (by omega) (by decide)
  have n36 : n * n ≤ 36 := Nat.mul_le_mul hn hn
  refine loopE (fun f k (y : (Nat × Int32) × Mem) => f_X10_rests_46 f (nI p) (nI q) (nI w) (nI y.1.1) y.1.2 (nI k) y.2) (n * n) (fun k y => y.1 = rtF n G H k ∧ QM M y.2) (fun x => ∃ M', x = some (r, M') ∧ QM M M') ?_ ?_ (n * n) 0 (by omega) 100 ((0, -9), M) (by omega) ⟨rfl, QM.rf⟩
  · rintro f k ⟨s, M1⟩ hk ⟨hs, Q1⟩
    simp only at hs Q1
    left
    have sle : s.1 ≤ k := by rw [hs]; exact rtF_le _
    have N1 := Now_m hN Q1
    have n0 : 0 < n := by omega
    have hka : k / n < n := (Nat.div_lt_iff_lt_mul n0).mpr hk
    have hkb : k % n < n := Nat.mod_lt k n0
    have ez : ¬ nI n = 0 := nI_ne0 n0 (by omega)
    have ed : nI k / nI n = nI (k / n) := pk_div (by omega) n0 (by omega)
    have er : nI k - nI (k / n) * nI n = nI (k % n) := by rw [← ed]; exact pk_rem (by omega) n0 (by omega)
    obtain ⟨M2, e2, Q2⟩ := m_isRest N1 hp hq hka hkb
    rw [← hG, ← hH] at e2
    have N2 := Now_m N1 Q2
    have e0 : rtF n G H (k + 1) = if rstB n G H (k / n) (k % n) = true then (s.1 + 1, if s.1 = 0 then nI (10 * (k / n) + k % n) else s.2) else s := by rw [rtF, ← hs]
    refine ⟨(rtF n G H (k + 1), M2), ?_, rfl, Q1.tr Q2⟩
    show f_X10_rests_46 (f + 1) (nI p) (nI q) (nI w) (nI s.1) s.2 (nI k) M1 = f_X10_rests_46 f (nI p) (nI q) (nI w) (nI (rtF n G H (k + 1)).1) (rtF n G H (k + 1)).2 (nI (k + 1)) M2
    rw [e0, f_X10_rests_46, N1.2.2.1.2.2.2, pk_mul, if_neg (nI_ge hk (by omega)), if_pos ez, if_pos ez, ed, er, e2]
    simp only [Option.bind_some, if_b2]
    rw [N2.2.2.1.2.2.2, if_pos ez, if_pos ez, ed, er]
    unfold f_X10_rests_111 f_X10_rests_116
    have k1 : (nI s.1 = 0) = (s.1 = 0) := eq_nI (b := 0) (by omega) (by decide)
    simp only [lt_, nI_add1, k1]
    rw [show (10 : Int32) * nI (k / n) = nI (10 * (k / n)) from pk_mul 10 _, nI_add]
    by_cases c : rstB n G H (k / n) (k % n) = true
    · rw [if_pos c, if_pos c]
      by_cases c0 : s.1 = 0
      · rw [if_pos c0, if_pos c0]
      · rw [if_neg c0, if_neg c0]
    · rw [if_neg c, if_neg c]
  · rintro f ⟨s, M1⟩ ⟨hs, Q1⟩
    simp only at hs Q1
    refine ⟨M1, ?_, Q1⟩
    show f_X10_rests_46 (f + 1) (nI p) (nI q) (nI w) (nI s.1) s.2 (nI (n * n)) M1 = _
    rw [f_X10_rests_46, (Now_m hN Q1).2.2.1.2.2.2, pk_mul, if_pos (nI_le (Nat.le_refl _) (by omega)), hr, ← hs]
    unfold f_X10_rests_133
    simp only [kw]
    split <;> rfl
theorem op_rests (v1 v2 v3 : Int32) : Op (f_X9_rests v1 v2 v3) (f_X10_rests v1 v2 v3) := by
  intro M hI
  obtain ⟨⟨n, vo, ra, ki, se, go, no, he, ba, hN, -, -⟩, -, -, -⟩ := id hI
  have hn := hN.1.1
  have mm : ∀ M1 : Mem, M1.1 27 0 0 = nI n → f_X10_rests v1 v2 v3 M1 = if isS n v1 = true then if isS n v2 = true then if v1 = v2 then some (-2, M1) else if wi 0 1 v3 = true then f_X10_rests_46 100 v1 v2 v3 0 (-9) 0 M1 else some (-2, M1) else some (-1, M1) else some (-1, M1) := by
    intro M1 h1
    unfold f_X10_rests f_X10_rests_16 f_X10_rests_33
    rw [m_isSinger h1 hn, m_isSinger h1 hn, show f_X10_in v3.toInt64 0 1 M1 = some (b2 (wi 0 1 v3)) from m_within]
    simp only [Option.bind_some, if_b2]
  have cc : f_X9_rests v1 v2 v3 M = if isS n v1 = true then if isS n v2 = true then if v1 = v2 then some (-2, M) else if wi 0 1 v3 = true then if v3 = 1 then f_X9_rests_57 v1 v2 1 M else f_X9_rests_57 v1 v2 0 M else some (-2, M) else some (-1, M) else some (-1, M) := by
    unfold f_X9_rests f_X9_rests_22 f_X9_rests_38
    rw [c_isSinger hN.2.2.2.2.1.2.2.2.1 hn, c_isSinger hN.2.2.2.2.1.2.2.2.1 hn, show f_X9_isWithin v3 0 1 M = some (b2 (wi 0 1 v3)) from c_within]
    simp only [Option.bind_some, if_b2]
  have h0 := hN.2.2.1.2.2.2
  by_cases h1 : isS n v1 = true
  case neg => exact ⟨-1, M, M, by rw [cc, if_neg h1], by rw [mm M h0, if_neg h1], hI⟩
  by_cases h2 : isS n v2 = true
  case neg => exact ⟨-1, M, M, by rw [cc, if_pos h1, if_neg h2], by rw [mm M h0, if_pos h1, if_neg h2], hI⟩
  by_cases h3 : v1 = v2
  case pos => exact ⟨-2, M, M, by rw [cc, if_pos h1, if_pos h2, if_pos h3], by rw [mm M h0, if_pos h1, if_pos h2, if_pos h3], hI⟩
  by_cases h4 : wi 0 1 v3 = true
  case neg => exact ⟨-2, M, M, by rw [cc, if_pos h1, if_pos h2, if_neg h3, if_neg h4], by rw [mm M h0, if_pos h1, if_pos h2, if_neg h3, if_neg h4], hI⟩
  obtain ⟨p, hp, rfl⟩ := isS_true hn h1
  obtain ⟨q, hq, rfl⟩ := isS_true hn h2
  obtain ⟨w, rfl, -, hw⟩ := wi_true (lo := 0) (hi := 1) h4 (by decide)
  refine opQ hI (r := if w = 0 then nI (rtF n (gnF n vo ra ki se go no he p) (gnF n vo ra ki se go no he q) (n * n)).1 else (rtF n (gnF n vo ra ki se go no he p) (gnF n vo ra ki se go no he q) (n * n)).2) ?_ ?_
  · obtain ⟨M', e', A'⟩ := c_rests hN hp hq (show w < 2 by omega) rfl
    refine ⟨M', ?_, A'⟩
    rw [cc, if_pos h1, if_pos h2, if_neg h3, if_pos h4]
    unfold f_X9_rests_57
    rcases (show w = 0 ∨ w = 1 by omega) with rfl | rfl
    · rw [if_neg (show ¬ nI 0 = 1 by decide), show (0 : Int32) = nI 0 from rfl, e']; rfl
    · rw [if_pos (show nI 1 = 1 by decide), show (1 : Int32) = nI 1 from rfl, e']; rfl
  · intro M1 A1
    have N1 := Now_c hN A1
    obtain ⟨M', e', Q'⟩ := m_rests N1 hp hq (show w < 2 by omega) rfl
    refine ⟨M', ?_, Q'⟩
    rw [mm M1 N1.2.2.1.2.2.2, if_pos h1, if_pos h2, if_neg h3, if_pos h4]
    exact e'
