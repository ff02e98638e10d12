/-! told doings judged -/
abbrev St := (Nat → Nat) × (Nat → Nat) × (Nat → Nat)
def goodD (n : Nat) (ki : Nat → Nat) (he : Nat) (s : St) (a b c : Nat) : Bool :=
  if a = 0 ∨ a = 3 then decide (b = 0) && decide (c = 0)
  else if a = 1 then decide (b < n) && decide (0 < c)
  else if a = 2 then decide (b < n) && (decide (c < n) && decide (b ≠ c))
  else if a = 4 then decide (b < n) && decide (s.2.2 b = c)
  else if a = 5 then decide (b < n) && decide (envy n (2 ^ n - 1) ki s.1 s.2.1 s.2.2 he b = some c)
  else false
def stepD (n : Nat) (vo ra ki : Nat → Nat) (he : Nat) (s : St) (a b c : Nat) : St :=
  if a = 0 then (s.1, s.2.1, stp n (2 ^ n - 1) vo ra ki s.1 s.2.1 s.2.2 he)
  else if a = 1 then (s.1, giveF s.2.1 b c, s.2.2)
  else if a = 2 then (swF s.1 b c, s.2.1, s.2.2)
  else if a = 3 then (s.1, s.2.1, vo)
  else s
def okD (n : Nat) (he : Nat) (s : St) : Prop := okS n (2 ^ n - 1) s.1 s.2.1 s.2.2 he
theorem okD_step {n : Nat} {vo ra ki : Nat → Nat} {he : Nat} {s : St} {a b c : Nat} (oR : okR n vo ra ki) (ok : okD n he s) (g : goodD n ki he s a b c = true) : okD n he (stepD n vo ra ki he s a b c) := by
  unfold stepD
  unfold goodD at g
  split
  · exact okS_itr oR ok 1
  · rename_i h0
    split
    · exact okS_give ok
    · rename_i h1
      split
      · rename_i h2
        rw [if_neg (by omega), if_neg h1, if_pos h2] at g
        simp at g
        exact okS_swap ok g.1 g.2.1
      · split
        · exact ⟨ok.1, fun i hi => ⟨(ok.2.1 i hi).1, (ok.2.1 i hi).2.1, (oR.2 i hi).1⟩, ok.2.2⟩
        · exact ok
theorem gd0 {n : Nat} {ki : Nat → Nat} {he : Nat} {s : St} {b c : Nat} : goodD n ki he s 0 b c = (decide (b = 0) && decide (c = 0)) := rfl
theorem gd1 {n : Nat} {ki : Nat → Nat} {he : Nat} {s : St} {b c : Nat} : goodD n ki he s 1 b c = (decide (b < n) && decide (0 < c)) := rfl
theorem gd2 {n : Nat} {ki : Nat → Nat} {he : Nat} {s : St} {b c : Nat} : goodD n ki he s 2 b c = (decide (b < n) && (decide (c < n) && decide (b ≠ c))) := rfl
theorem gd3 {n : Nat} {ki : Nat → Nat} {he : Nat} {s : St} {b c : Nat} : goodD n ki he s 3 b c = (decide (b = 0) && decide (c = 0)) := rfl
theorem gd4 {n : Nat} {ki : Nat → Nat} {he : Nat} {s : St} {b c : Nat} : goodD n ki he s 4 b c = (decide (b < n) && decide (s.2.2 b = c)) := rfl
theorem gd5 {n : Nat} {ki : Nat → Nat} {he : Nat} {s : St} {b c : Nat} : goodD n ki he s 5 b c = (decide (b < n) && decide (envy n (2 ^ n - 1) ki s.1 s.2.1 s.2.2 he b = some c)) := rfl
theorem gd6 {n : Nat} {ki : Nat → Nat} {he : Nat} {s : St} {a b c : Nat} (h : 5 < a) : goodD n ki he s a b c = false := by
  unfold goodD
  rw [if_neg (show ¬ (a = 0 ∨ a = 3) by omega), if_neg (show ¬ a = 1 by omega), if_neg (show ¬ a = 2 by omega), if_neg (show ¬ a = 4 by omega), if_neg (show ¬ a = 5 by omega)]
theorem b2_ite {p : Bool} {x : Int32} (h : x = b2 p) : (if x = 0 ∨ x = 1 then some x else none) = some (b2 p) := by
  rw [if_pos (by rw [h]; exact b2_01 p), h]
theorem k10 {a : Nat} (ha : a < 10) (k : Nat) (hk : k < 10) {x : Int32} (hx : x = nI k) : (nI a = x) = (a = k) := by
  rw [hx]; exact eq_nI (by omega) (by omega)
theorem c_canBe {M : Mem} {n : Nat} {vo ra ki : Nat → Nat} {he ba : Nat} {s : St} {a b c : Nat} (hR : cR M n vo ra ki) (oR : okR n vo ra ki) (h : cS M 1 n (2 ^ n - 1) s.1 s.2.1 s.2.2 he ba) (ok : okD n he s) (ha : a < 10) (hb : b < 10) (hc : c < 10) : f_X2_canBe (nI a) (nI b) (nI c) M = some (b2 (goodD n ki he s a b c)) := by
  have hn := oR.1
  have ht : 2 ^ n - 1 < 64 := Nat.lt_of_lt_of_le (full_lt n) (two6 hn)
  have a0 := k10 ha 0 (by decide) (x := 0) rfl
  have a1 := k10 ha 1 (by decide) (x := 1) rfl
  have a2 := k10 ha 2 (by decide) (x := 2) rfl
  have a3 := k10 ha 3 (by decide) (x := 3) rfl
  have a4 := k10 ha 4 (by decide) (x := 4) rfl
  have a5 := k10 ha 5 (by decide) (x := 5) rfl
  have b0 := k10 hb 0 (by decide) (x := 0) rfl
  have c0 := k10 hc 0 (by decide) (x := 0) rfl
  have cb := k10 hb c (by omega) (x := nI c) rfl
  have cp : (nI c ≤ 0) = (c ≤ 0) := le_nI (b := 0) (by omega) (by decide)
  unfold f_X2_canBe f_X2_canBe_166 f_X2_canBe_165 f_X2_canBe_137 f_X2_canBe_136 f_X2_canBe_107 f_X2_canBe_106 f_X2_canBe_74 f_X2_canBe_73 f_X2_canBe_53 f_X2_canBe_52 f_X2_canBe_166 f_X2_canBe_137 f_X2_canBe_107 f_X2_canBe_74 f_X2_canBe_53
  simp only [a0, a1, a2, a3, a4, a5, b0, c0, cb, cp, c_isThere h.2.2.2.1 ht (show b < 2 ^ 31 by omega), c_isThere h.2.2.2.1 ht (show c < 2 ^ 31 by omega), Option.bind_some, if_b2, tb_full]
  by_cases e0 : a = 0
  · rw [if_pos e0, e0, gd0]
    by_cases eb : b = 0 <;> by_cases ec : c = 0 <;> simp [eb, ec, b2]
  rw [if_neg e0]
  by_cases e1 : a = 1
  · rw [if_pos e1, e1, gd1]
    rcases Nat.eq_zero_or_pos c with ec | ec
    · subst ec; by_cases eb : b < n <;> simp [eb, b2]
    · by_cases eb : b < n <;> simp [eb, b2, ec, Nat.ne_of_gt ec]
  rw [if_neg e1]
  by_cases e2 : a = 2
  · rw [if_pos e2, e2, gd2]
    by_cases eb : b < n <;> by_cases ec : c < n <;> by_cases ed : b = c <;> simp [eb, ec, ed, b2]
  rw [if_neg e2]
  by_cases e3 : a = 3
  · rw [if_pos e3, e3, gd3]
    by_cases eb : b = 0 <;> by_cases ec : c = 0 <;> simp [eb, ec, b2]
  rw [if_neg e3]
  by_cases e4 : a = 4
  · rw [if_pos e4, e4, gd4]
    by_cases eb : b < n
    · rw [if_pos (show decide (b < n) = true by simpa using eb), if_gd (show b < 6 by omega) (by decide), tn_nI (by omega), h.2.2.1 b eb]
      have := (ok.2.1 b eb).2.2
      have k1 : (nI (s.2.2 b) = nI c) = (s.2.2 b = c) := eq_nI (by omega) (by omega)
      simp only [k1]
      by_cases ec : s.2.2 b = c <;> simp [eb, ec, b2]
    · simp [eb, b2]
  rw [if_neg e4]
  by_cases e5 : a = 5
  · rw [if_pos e5, e5, gd5]
    by_cases eb : b < n
    · rw [if_pos (show decide (b < n) = true by simpa using eb), c_enviedBy hR oR h ok eb]
      simp only [Option.bind_some]
      rcases hE : envy n (2 ^ n - 1) ki s.1 s.2.1 s.2.2 he b with _ | q
      · have : ¬ eI none = nI c := by
          have : ∀ c, c < 10 → ¬ (-9 : Int32) = nI c := by decide +kernel
          exact this c hc
        rw [if_neg this]
        simp [eb, b2]
      · have hq := (envy_some hE).1
        have k1 : (eI (some q) = nI c) = (q = c) := eq_nI (by omega) (by omega)
        simp only [k1]
        by_cases ec : q = c <;> simp [eb, ec, b2]
    · simp [eb, b2]
  rw [if_neg e5, gd6 (by omega)]
  rfl
theorem c_happen {M : Mem} {n : Nat} {vo ra ki : Nat → Nat} {he ba : Nat} {s : St} {a b c : Nat} (hR : cR M n vo ra ki) (oR : okR n vo ra ki) (h : cS M 1 n (2 ^ n - 1) s.1 s.2.1 s.2.2 he ba) (ok : okD n he s) (ha : a < 10) (hc : c < 10) (g : goodD n ki he s a b c = true) : ∃ M', f_X2_happen (nI a) (nI b) (nI c) M = some M' ∧ Alk PC M M' ∧ cS M' 1 n (2 ^ n - 1) (stepD n vo ra ki he s a b c).1 (stepD n vo ra ki he s a b c).2.1 (stepD n vo ra ki he s a b c).2.2 he ba := by
  have hn := oR.1
  have a0 := k10 ha 0 (by decide) (x := 0) rfl
  have a1 := k10 ha 1 (by decide) (x := 1) rfl
  have a2 := k10 ha 2 (by decide) (x := 2) rfl
  have a3 := k10 ha 3 (by decide) (x := 3) rfl
  unfold f_X2_happen f_X2_happen_77
  simp only [a0, a1, a2, a3]
  unfold stepD
  unfold goodD at g
  by_cases e0 : a = 0
  · rw [if_pos e0, if_pos e0]
    obtain ⟨M', e, A, S⟩ := c_on (m := 1) oR hR h ok (by decide)
    exact ⟨M', by rw [show f_X7_goOn 1 1 M = some M' from e]; rfl, A, S⟩
  rw [if_neg e0, if_neg e0]
  by_cases e1 : a = 1
  · rw [if_neg (by omega), if_pos e1] at g
    simp at g
    rw [if_pos e1, if_pos e1]
    obtain ⟨M', e, A, S, -⟩ := c_giveQ h hR hn g.1 (ok.2.1 b g.1).2.1 hc
    exact ⟨M', by rw [e]; rfl, A, S⟩
  rw [if_neg e1, if_neg e1]
  by_cases e2 : a = 2
  · rw [if_neg (by omega), if_neg e1, if_pos e2] at g
    simp at g
    rw [if_pos e2, if_pos e2]
    obtain ⟨M', e, A, S, -⟩ := c_swapQ h hR hn g.1 g.2.1
    exact ⟨M', by rw [e]; rfl, A, S⟩
  rw [if_neg e2, if_neg e2]
  by_cases e3 : a = 3
  · rw [if_pos e3, if_pos e3]
    obtain ⟨M', e, A, S⟩ := c_voices hR hn h
    exact ⟨M', by rw [e]; rfl, A.wk (fun a b e => Or.inl e.1), S⟩
  rw [if_neg e3, if_neg e3]
  exact ⟨M, rfl, Alk.rf, h⟩
theorem m_tryThing {M : Mem} {n : Nat} {vo ra ki : Nat → Nat} {he ba : Nat} {s : St} {a b c : Nat} (hR : mR M n vo ra ki) (oR : okR n vo ra ki) (h : mS M 1 n s.1 s.2.1 s.2.2 he ba) (hT : mT M 63) (ok : okD n he s) (ha : a < 10) (hb : b < 10) (hc : c < 10) : ∃ M', f_X10_tryThing (nI a) (nI b) (nI c) M = some (b2 (goodD n ki he s a b c), M') ∧ QM M M' ∧ mR M' n vo ra ki ∧ mT M' 63 ∧ (goodD n ki he s a b c = true → ∃ ba', mS M' 1 n (stepD n vo ra ki he s a b c).1 (stepD n vo ra ki he s a b c).2.1 (stepD n vo ra ki he s a b c).2.2 he ba') ∧ (goodD n ki he s a b c = false → a = 1 ∨ a = 2 → M' = M) := by
  have hn := oR.1
  have a0 := k10 ha 0 (by decide) (x := 0) rfl
  have a1 := k10 ha 1 (by decide) (x := 1) rfl
  have a2 := k10 ha 2 (by decide) (x := 2) rfl
  have a3 := k10 ha 3 (by decide) (x := 3) rfl
  have a4 := k10 ha 4 (by decide) (x := 4) rfl
  have a5 := k10 ha 5 (by decide) (x := 5) rfl
  have b0 := k10 hb 0 (by decide) (x := 0) rfl
  have c0 := k10 hc 0 (by decide) (x := 0) rfl
  have cb := k10 hb c (by omega) (x := nI c) rfl
  have cp : (nI c ≤ 0) = (c ≤ 0) := le_nI (b := 0) (by omega) (by decide)
  have o10 : (1 : Int32) ≠ 0 := by decide
  unfold f_X10_tryThing f_X10_tryThing_213 f_X10_tryThing_212 f_X10_tryThing_213 f_X10_tryThing_181 f_X10_tryThing_180 f_X10_tryThing_181 f_X10_tryThing_154 f_X10_tryThing_153 f_X10_tryThing_154 f_X10_tryThing_119 f_X10_tryThing_118 f_X10_tryThing_119 f_X10_tryThing_133 f_X10_tryThing_76 f_X10_tryThing_75 f_X10_tryThing_76 f_X10_tryThing_90 f_X10_tryThing_58 f_X10_tryThing_57 f_X10_tryThing_58
  simp only [a0, a1, a2, a3, a4, a5, b0, c0, cb, cp, m_isSinger hR.2.2.2 hn, isS_nI (show b < 2 ^ 31 by omega), isS_nI (show c < 2 ^ 31 by omega), Option.bind_some, if_b2, true_or, or_true, if_true, if_neg o10, lt_]
  by_cases e0 : a = 0
  · rw [if_pos e0, e0, gd0]
    obtain ⟨M', e, A, S, o⟩ := m_passOn (lv := 1) hR oR h hT (by decide) (okS_B ok) (by decide)
    refine ⟨M', ?_, QM.of A (fun k hk => o k (by omega)), mR_alk hR A (fun b _ e => by omega), mT_alk hT A (by omega), fun _ => ⟨ba + 1, mS_congr S (fun i hi => ?_)⟩, fun _ q => absurd q (by omega)⟩
    · rw [show f_X10_passOn 1 M = some M' from e]
      simp only [Option.bind_some]
      by_cases eb : b = 0 <;> by_cases ec : c = 0 <;> simp [eb, ec, b2]
    · rw [nxA_63 hn]
      show _ = stp n (2 ^ n - 1) vo ra ki s.1 s.2.1 s.2.2 he i
      unfold stp
      rw [if_pos (by rw [tb_full]; simpa using hi)]
      rfl
  rw [if_neg e0]
  by_cases e1 : a = 1
  · rw [if_pos e1, e1, gd1]
    by_cases g : b < n ∧ 0 < c
    · obtain ⟨M', e, Q, S, R, T⟩ := m_giveQ (k := c) h hR hT hn g.1 (ok.2.1 b g.1).2.1 hc
      refine ⟨M', ?_, Q, R, T, fun _ => ⟨ba, S⟩, fun q => absurd q (by simp [g.1, g.2])⟩
      rw [e]
      have : ¬ c ≤ 0 := by omega
      simp [g.1, g.2, b2, this]
    · refine ⟨M, ?_, QM.rf, hR, hT, fun q => absurd q (by simpa using g), fun _ _ => rfl⟩
      by_cases eb : b < n
      · have : c = 0 := by omega
        simp [eb, this, b2]
      · simp [eb, b2]
  rw [if_neg e1]
  by_cases e2 : a = 2
  · rw [if_pos e2, e2, gd2]
    by_cases g : b < n ∧ c < n ∧ b ≠ c
    · obtain ⟨M', e, Q, S, R, T⟩ := m_swapQ h hR hT hn g.1 g.2.1
      refine ⟨M', ?_, Q, R, T, fun _ => ⟨ba, S⟩, fun q => absurd q (by simp [g.1, g.2.1, g.2.2])⟩
      rw [e]
      simp [g.1, g.2.1, g.2.2, b2]
    · refine ⟨M, ?_, QM.rf, hR, hT, fun q => absurd q (by simpa using g), fun _ _ => rfl⟩
      by_cases eb : b < n
      · by_cases ec : c < n
        · have : b = c := by omega
          subst this
          simp [eb, b2]
        · simp [eb, ec, b2]
      · simp [eb, b2]
  rw [if_neg e2]
  by_cases e3 : a = 3
  · rw [if_pos e3, e3, gd3]
    obtain ⟨M', e, A, S, o⟩ := m_pitchOn (lv := 1) hR hn h (by decide)
    refine ⟨M', ?_, QM.of4 A (fun k hk => o k (by omega)), mR_alk hR A (fun b _ e => by omega), mT_alk hT A (by omega), fun _ => ⟨ba, S⟩, fun _ q => absurd q (by omega)⟩
    rw [show f_X10_pitchOn 1 M = some M' from e]
    simp only [Option.bind_some]
    by_cases eb : b = 0 <;> by_cases ec : c = 0 <;> simp [eb, ec, b2]
  rw [if_neg e3]
  by_cases e4 : a = 4
  · rw [if_pos e4, e4, gd4]
    refine ⟨M, ?_, QM.rf, hR, hT, fun _ => ⟨ba, h⟩, fun _ _ => rfl⟩
    by_cases eb : b < n
    · rw [if_pos (show decide (b < n) = true by simpa using eb), show (32 : Int32) + nI b = nI (32 + b) from nI_add 32 b, if_gd (show 32 + b < 40 by omega) (by decide), tn_nI (by omega), show M.1 27 4 (32 + b) = nI (s.2.2 b) from h.2.2.1 b eb]
      have := (ok.2.1 b eb).2.2
      have k1 : (nI (s.2.2 b) = nI c) = (s.2.2 b = c) := eq_nI (by omega) (by omega)
      simp only [k1]
      by_cases ec : s.2.2 b = c <;> simp [eb, ec, b2]
    · simp [eb, b2]
  rw [if_neg e4]
  by_cases e5 : a = 5
  · rw [if_pos e5, e5, gd5]
    refine ⟨M, ?_, QM.rf, hR, hT, fun _ => ⟨ba, h⟩, fun _ _ => rfl⟩
    by_cases eb : b < n
    · rw [if_pos (show decide (b < n) = true by simpa using eb), show f_X10_enviesOf 1 (nI b) M = _ from m_enviesOf (lv := 1) hR oR h hT (by decide) (okS_B ok) (by decide) eb, envy_63 hn]
      simp only [Option.bind_some]
      rcases hE : envy n (2 ^ n - 1) ki s.1 s.2.1 s.2.2 he b with _ | q
      · have : ¬ eI none = nI c := by
          have : ∀ c, c < 10 → ¬ (-9 : Int32) = nI c := by decide +kernel
          exact this c hc
        rw [if_neg this]
        simp [eb, b2]
      · have hq := (envy_some hE).1
        have k1 : (eI (some q) = nI c) = (q = c) := eq_nI (by omega) (by omega)
        simp only [k1]
        by_cases ec : q = c
        · subst ec; simp [eb, hq, b2]
        · simp [eb, ec, b2]
    · simp [eb, b2]
  rw [if_neg e5, gd6 (by omega)]
  exact ⟨M, rfl, QM.rf, hR, hT, (fun q => by cases q), fun _ _ => rfl⟩
theorem c_without {M : Mem} {D k : Nat} (hD : D < 2 ^ 63) (hk : k ≤ 4) : f_X9_withoutDoings (lN D) (nI k) M = some (lN (D / 1000 ^ k)) := by
  unfold f_X9_withoutDoings
  have h0 : lN D = lN (D / 1000 ^ 0) := by simp
  rw [h0]
  refine loopF (fun f i (x : Int64) => f_X9_withoutDoings_5 M f (nI k) x (nI i)) k (fun i => lN (D / 1000 ^ i)) _ ?_ ?_ 100 (by omega)
  · intro f i hi
    show f_X9_withoutDoings_5 M (f + 1) (nI k) (lN (D / 1000 ^ i)) (nI i) = _
    rw [f_X9_withoutDoings_5, if_neg (nI_ge hi (by omega))]
    simp only [lt_]
    rw [nI_add1, show lN (D / 1000 ^ i) / 1000 = lN (D / 1000 ^ i / 1000) from pk_lDiv (b := 1000) (Nat.lt_of_le_of_lt (Nat.div_le_self _ _) hD) (by decide) (by decide), Nat.div_div_eq_div_mul, ← Nat.pow_succ]
  · intro f
    show f_X9_withoutDoings_5 M (f + 1) (nI k) (lN (D / 1000 ^ k)) (nI k) = _
    rw [f_X9_withoutDoings_5, if_pos (nI_le (Nat.le_refl k) (by omega))]
theorem m_thousand {M : Mem} {k : Nat} (hk : k ≤ 4) : f_X10_thousandTo (nI k) M = some (lN (1000 ^ k)) := by
  unfold f_X10_thousandTo
  refine loopF (fun f i (x : Int64) => f_X10_thousandTo_4 M f (nI k) x (nI i)) k (fun i => lN (1000 ^ i)) _ ?_ ?_ 100 (by omega)
  · intro f i hi
    show f_X10_thousandTo_4 M (f + 1) (nI k) (lN (1000 ^ i)) (nI i) = _
    rw [f_X10_thousandTo_4, if_neg (nI_ge hi (by omega))]
    simp only [lt_]
    rw [nI_add1, show lN (1000 ^ i) * 1000 = lN (1000 ^ i * 1000) from lN_mul _ 1000, ← Nat.pow_succ]
  · intro f
    show f_X10_thousandTo_4 M (f + 1) (nI k) (lN (1000 ^ k)) (nI k) = _
    rw [f_X10_thousandTo_4, if_pos (nI_le (Nat.le_refl k) (by omega))]
def jdF (n : Nat) (vo ra ki : Nat → Nat) (he : Nat) (X : Nat → Nat) : Nat → Nat → St → Int32
  | 0, _, _ => -9
  | r + 1, j, s => if goodD n ki he s (X j / 100) (X j / 10 % 10) (X j % 10) = true then jdF n vo ra ki he X r (j + 1) (stepD n vo ra ki he s (X j / 100) (X j / 10 % 10) (X j % 10)) else nI j
theorem dig {x : Nat} (h : x < 1000) : nI x / 100 = nI (x / 100) ∧ nI x / 10 = nI (x / 10) ∧ (nI (x / 10) - nI (x / 10) / 10 * 10 = nI (x / 10 % 10)) ∧ nI x - nI (x / 10) * 10 = nI (x % 10) := by
  have d1 := pk_div (a := x) (d := 100) (by omega) (by decide) (by decide)
  have d2 := pk_div (a := x) (d := 10) (by omega) (by decide) (by decide)
  have d3 := pk_rem (a := x / 10) (d := 10) (by omega) (by decide) (by decide)
  have d4 := pk_rem (a := x) (d := 10) (by omega) (by decide) (by decide)
  rw [d2] at d4
  exact ⟨d1, d2, d3, d4⟩
theorem op_judge (v : Int32) (w : Int64) : Op (f_X9_judge v w) (f_X10_judge v w) := by
  intro M hI
  obtain ⟨⟨n, vo, ra, ki, se, go, no, he, ba, hN, -, -⟩, -, -, -⟩ := id hI
  obtain ⟨oR, hcR, hmR, ok, hcS, hmS, hTh⟩ := id hN
  have hn := hN.1.1
  unfold f_X9_judge f_X10_judge f_X9_judge_25 f_X10_judge_26
  simp only [c_within, Option.bind_some, if_b2]
  rw [show f_X10_in v.toInt64 1 4 = fun M => some (b2 (wi 1 4 v)) from funext fun M => m_within]
  simp only [Option.bind_some, if_b2, cmp_lt0]
  rw [show (1 : Int32).toInt = 1 from rfl, show (4 : Int32).toInt = 4 from rfl]
  by_cases h : wi 1 4 v = true
  case neg => exact ⟨-2, M, M, by rw [if_neg h], by rw [if_neg h], hI⟩
  obtain ⟨k, rfl, hk1, hk4⟩ := wi_true (lo := 1) (hi := 4) h (by decide)
  simp only [if_pos h]
  have hpl : 1000 ^ k ≤ 1000 ^ 4 := Nat.pow_le_pow_right (by decide) hk4
  have hp0 : 0 < 1000 ^ k := Nat.pow_pos (by decide)
  have emq : ∀ M1 : Mem, (f_X10_thousandTo (nI k) M1).bind (fun q3 => (f_X10_in w 0 (q3 - (1 : Int64)) M1).bind (fun q4 => if q4 = 0 then some ((-2 : Int32), M1) else (f_X10_layTrial M1).bind (fun q6 => f_X10_judge_36 100 (nI k) w 0 q6))) = if (decide ((0 : Int) ≤ w.toInt) && decide (w.toInt ≤ ((1000 ^ k - 1 : Nat) : Int))) = true then (f_X10_layTrial M1).bind (fun q6 => f_X10_judge_36 100 (nI k) w 0 q6) else some ((-2 : Int32), M1) := by
    intro M1
    rw [m_thousand hk4]
    simp only [Option.bind_some]
    rw [show lN (1000 ^ k) - 1 = lN (1000 ^ k - 1) from lN_sub (b := 1) hp0, m_in, pk_lT (show 1000 ^ k - 1 < 2 ^ 63 by omega)]
    simp only [Option.bind_some, if_b2]
    rfl
  by_cases hw : w < 0
  · refine ⟨-2, M, M, by rw [if_pos hw], ?_, hI⟩
    rw [emq, if_neg]
    have : w.toInt < 0 := Int64.lt_iff_toInt_lt.mp hw
    simp
    omega
  obtain ⟨D, hD, rfl⟩ := pk_lOf hw
  rw [if_neg hw, c_without hD hk4]
  simp only [Option.bind_some]
  have hdk : D / 1000 ^ k < 2 ^ 63 := Nat.lt_of_le_of_lt (Nat.div_le_self _ _) hD
  by_cases hz : D < 1000 ^ k
  case neg =>
    refine ⟨-2, M, M, ?_, ?_, hI⟩
    · have : ¬ D / 1000 ^ k = 0 := by
        intro q
        rw [Nat.div_eq_zero_iff] at q
        omega
      rw [if_neg]
      intro q
      have h2 : 0 < D / 1000 ^ k := Nat.pos_of_ne_zero this
      have : (0 : Int32) < lg_cmp (lN (D / 1000 ^ k)) 0 := by
        rw [cmp_gt0]
        exact (pk_lLT (a := 0) (by decide) hdk).mpr h2
      rw [q] at this
      exact absurd this (by decide)
    · rw [emq, if_neg]
      rw [pk_lT hD]
      simp
      omega
  have hz0 : D / 1000 ^ k = 0 := Nat.div_eq_of_lt hz
  rw [hz0, if_pos (show lg_cmp (lN 0) 0 = 0 from rfl)]
  obtain ⟨X, hX⟩ : ∃ X : Nat → Nat, X = fun j => D / 1000 ^ (k - 1 - j) % 1000 := ⟨_, rfl⟩
  have xl : ∀ j, X j < 1000 := fun j => by rw [hX]; exact Nat.mod_lt _ (by decide)
  refine opQ hI (r := jdF n vo ra ki he X k 0 (se, go, no)) ?_ ?_
  · obtain ⟨M1, e1, A1, S1, N1⟩ := c_lay hN
    have key : ∃ M', f_X2_firstWrongDoing_14 100 (nI k) (lN D) 0 M1 = some (jdF n vo ra ki he X k 0 (se, go, no), M') ∧ Alk PC M M' := by
      refine loopE (fun f j (M2 : Mem) => f_X2_firstWrongDoing_14 f (nI k) (lN D) (nI j) M2) k (fun j M2 => Alk PC M M2 ∧ ∃ s : St, cS M2 1 n (2 ^ n - 1) s.1 s.2.1 s.2.2 he ba ∧ okD n he s ∧ jdF n vo ra ki he X (k - j) j s = jdF n vo ra ki he X k 0 (se, go, no)) (fun r => ∃ M', r = some (jdF n vo ra ki he X k 0 (se, go, no), M') ∧ Alk PC M M') ?_ ?_ k 0 (by omega) 100 M1 (by omega) ⟨A1, (se, go, no), S1, ok, rfl⟩
      · rintro f j M2 hj ⟨A2, s, S2, ok2, hs⟩
        show (∃ s', f_X2_firstWrongDoing_14 (f + 1) (nI k) (lN D) (nI j) M2 = _ ∧ _) ∨ ∃ M', f_X2_firstWrongDoing_14 (f + 1) (nI k) (lN D) (nI j) M2 = _ ∧ _
        have N2 := Now_c hN A2
        have hx := xl j
        obtain ⟨d1, d2, d3, d4⟩ := dig hx
        have ek : k - j = (k - j - 1) + 1 := by omega
        rw [ek] at hs
        simp only [jdF] at hs
        rw [f_X2_firstWrongDoing_14, if_neg (nI_ge hj (by omega)), show nI k - 1 - nI j = nI (k - 1 - j) from by rw [show nI k - 1 = nI (k - 1) from pk_sub (b := 1) hk1, pk_sub (by omega)], c_without hD (by omega)]
        have hlt : D / 1000 ^ (k - 1 - j) < 2 ^ 63 := Nat.lt_of_le_of_lt (Nat.div_le_self _ _) hD
        simp only [Option.bind_some, lt_]
        rw [show lN (D / 1000 ^ (k - 1 - j)) - lN (D / 1000 ^ (k - 1 - j)) / 1000 * 1000 = lN (D / 1000 ^ (k - 1 - j) % 1000) from pk_lRem (b := 1000) hlt (by decide) (by decide), show D / 1000 ^ (k - 1 - j) % 1000 = X j from by rw [hX], lN_i, d1, d2, d3, d4, c_canBe N2.2.1 oR S2 ok2 (by omega) (by omega) (by omega)]
        simp only [Option.bind_some, if_b2]
        by_cases g : goodD n ki he s (X j / 100) (X j / 10 % 10) (X j % 10) = true
        · left
          obtain ⟨M3, e3, A3, S3⟩ := c_happen N2.2.1 oR S2 ok2 (show X j / 100 < 10 by omega) (show X j % 10 < 10 by omega) g
          rw [if_pos g] at hs
          refine ⟨M3, ?_, A2.tr A3, _, S3, okD_step oR ok2 g, by rw [show k - (j + 1) = k - j - 1 by omega]; exact hs⟩
          rw [if_pos g, e3]
          simp only [Option.bind_some, nI_add1]
        · right
          rw [if_neg g] at hs
          exact ⟨M2, by rw [if_neg g, hs], A2⟩
      · rintro f M2 ⟨A2, s, S2, ok2, hs⟩
        refine ⟨M2, ?_, A2⟩
        show f_X2_firstWrongDoing_14 (f + 1) (nI k) (lN D) (nI k) M2 = _
        rw [f_X2_firstWrongDoing_14, if_pos (nI_le (Nat.le_refl k) (by omega)), ← hs, Nat.sub_self]
        rfl
    obtain ⟨M', e', A'⟩ := key
    refine ⟨M', ?_, A'⟩
    unfold f_X2_firstWrongDoing
    rw [e1]
    simp only [Option.bind_some]
    rw [e']
    rfl
  · intro M1 A1
    have N1 := Now_c hN A1
    rw [emq, if_pos (by rw [pk_lT hD]; simp; omega)]
    obtain ⟨M2, e2, Q2, S2, R2, T2⟩ := m_layQ N1
    rw [e2]
    simp only [Option.bind_some]
    refine loopE (fun f j (M2 : Mem) => f_X10_judge_36 f (nI k) (lN D) (nI j) M2) k (fun j M2 => QM M1 M2 ∧ mR M2 n vo ra ki ∧ mT M2 63 ∧ ∃ (s : St) (ba : Nat), mS M2 1 n s.1 s.2.1 s.2.2 he ba ∧ okD n he s ∧ jdF n vo ra ki he X (k - j) j s = jdF n vo ra ki he X k 0 (se, go, no)) (fun r => ∃ M', r = some (jdF n vo ra ki he X k 0 (se, go, no), M') ∧ QM M1 M') ?_ ?_ k 0 (by omega) 100 M2 (by omega) ⟨Q2, R2, T2, (se, go, no), ba, S2, ok, rfl⟩
    · rintro f j M3 hj ⟨Q3, R3, T3, s, ba3, S3, ok3, hs⟩
      show (∃ s', f_X10_judge_36 (f + 1) (nI k) (lN D) (nI j) M3 = _ ∧ _) ∨ ∃ M', f_X10_judge_36 (f + 1) (nI k) (lN D) (nI j) M3 = _ ∧ _
      have hx := xl j
      obtain ⟨d1, d2, d3, d4⟩ := dig hx
      have ek : k - j = (k - j - 1) + 1 := by omega
      rw [ek] at hs
      simp only [jdF] at hs
      have hpj : 1000 ^ (k - 1 - j) ≤ 1000 ^ 4 := Nat.pow_le_pow_right (by decide) (by omega)
      have hp0j : 0 < 1000 ^ (k - 1 - j) := Nat.pow_pos (by decide)
      have hlt : D / 1000 ^ (k - 1 - j) < 2 ^ 63 := Nat.lt_of_le_of_lt (Nat.div_le_self _ _) hD
      rw [f_X10_judge_36, if_neg (nI_ge hj (by omega)), show nI k - 1 - nI j = nI (k - 1 - j) from by rw [show nI k - 1 = nI (k - 1) from pk_sub (b := 1) hk1, pk_sub (by omega)], m_thousand (by omega)]
      simp only [Option.bind_some, lt_]
      rw [if_pos (show ¬ lN (1000 ^ (k - 1 - j)) = 0 from fun q => by
        have := (pk_lEQ (b := 0) (show 1000 ^ (k - 1 - j) < 2 ^ 63 by omega) (by decide)).mp q
        omega), pk_lDiv hD hp0j (by omega), show lN (D / 1000 ^ (k - 1 - j)) - lN (D / 1000 ^ (k - 1 - j)) / 1000 * 1000 = lN (D / 1000 ^ (k - 1 - j) % 1000) from pk_lRem (b := 1000) hlt (by decide) (by decide), show D / 1000 ^ (k - 1 - j) % 1000 = X j from by rw [hX], lN_i, d1, d2, d3, d4]
      obtain ⟨M4, e4, Q4, R4, T4, h4, -⟩ := m_tryThing R3 oR S3 T3 ok3 (show X j / 100 < 10 by omega) (show X j / 10 % 10 < 10 by omega) (show X j % 10 < 10 by omega)
      rw [e4]
      simp only [Option.bind_some, if_b2]
      by_cases g : goodD n ki he s (X j / 100) (X j / 10 % 10) (X j % 10) = true
      · left
        obtain ⟨ba4, S4⟩ := h4 g
        rw [if_pos g] at hs
        refine ⟨M4, ?_, Q3.tr Q4, R4, T4, _, ba4, S4, okD_step oR ok3 g, by rw [show k - (j + 1) = k - j - 1 by omega]; exact hs⟩
        rw [if_pos g, nI_add1]
      · right
        rw [if_neg g] at hs
        exact ⟨M4, by rw [if_neg g, hs], Q3.tr Q4⟩
    · rintro f M3 ⟨Q3, R3, T3, s, ba3, S3, ok3, hs⟩
      refine ⟨M3, ?_, Q3⟩
      show f_X10_judge_36 (f + 1) (nI k) (lN D) (nI k) M3 = _
      rw [f_X10_judge_36, if_pos (nI_le (Nat.le_refl k) (by omega)), ← hs, Nat.sub_self]
      rfl
