theorem opQ {X : Option (Int32 × Mem)} {fm : Mem → Option (Int32 × Mem)} {M : Mem} (hI : Inv M) {r : Int32} (hc : ∃ M1, X = some (r, M1) ∧ Alk PC M M1) (hm : ∀ M1, Alk PC M M1 → ∃ M2, fm M1 = some (r, M2) ∧ QM M1 M2) : ∃ r M1 M2, X = some (r, M1) ∧ fm M1 = some (r, M2) ∧ Inv M2 := by
  obtain ⟨M1, e1, A1⟩ := hc
  obtain ⟨M2, e2, A2⟩ := hm M1 A1
  exact ⟨r, M1, M2, e1, e2, Inv_m (Inv_c hI A1) A2⟩
theorem itr_1 {n th : Nat} {vo ra ki se go no : Nat → Nat} {he i : Nat} : itr n th vo ra ki se go (itr n th vo ra ki se go no he i) he 1 = itr n th vo ra ki se go no he (i + 1) := rfl
theorem op_unison : Op f_X9_unison f_X10_unison := by
  intro M hI
  obtain ⟨⟨n, vo, ra, ki, se, go, no, he, ba, hN, -, -⟩, -, -, -⟩ := id hI
  obtain ⟨oR, hcR, hmR, ok, hcS, hmS, hTh⟩ := id hN
  have hn := oR.1
  obtain ⟨P, hP⟩ : ∃ P : Nat → Bool, P = fun i => decide (rich (2 ^ n - 1) (itr n (2 ^ n - 1) vo ra ki se go no he i) ≤ 1) := ⟨_, rfl⟩
  have rb : ∀ (no : Nat → Nat), rich (2 ^ n - 1) no < 100 := fun no => by
    have : ∀ m k, popF m k ≤ k := fun m k => by
      induction k with
      | zero => simp [popF]
      | succ k ih => simp only [popF]; omega
    have := this (mskF (fun i => (2 ^ n - 1).testBit i) no 6) 10
    unfold rich pop
    omega
  refine opQ hI (r := eI (fstM P 61)) ?_ ?_
  · obtain ⟨M1, e1, A1, S1, N1⟩ := c_lay hN
    have key : ∃ M', f_X2_firstOneNote_13 100 0 M1 = some (eI (fstM P 61), M') ∧ Alk PC M M' := by
      refine loopE (fun f i (M2 : Mem) => f_X2_firstOneNote_13 f (nI i) M2) 61 (fun i M2 => Alk PC M M2 ∧ cS M2 1 n (2 ^ n - 1) se go (itr n (2 ^ n - 1) vo ra ki se go no he i) he ba ∧ fstM P i = none) (fun r => ∃ M', r = some (eI (fstM P 61), M') ∧ Alk PC M M') ?_ ?_ 61 0 (by omega) 100 M1 (by omega) ⟨A1, S1, rfl⟩
      · rintro f i M2 hi ⟨A2, S2, hf⟩
        show (∃ s', f_X2_firstOneNote_13 (f + 1) (nI i) M2 = _ ∧ _) ∨ ∃ M', f_X2_firstOneNote_13 (f + 1) (nI i) M2 = _ ∧ _
        rw [f_X2_firstOneNote_13, if_neg (show ¬ (60 : Int32) < nI i from fun q => absurd ((nI_ltI (a := 60) (by decide) (by omega)).mp q) (by omega)), c_richness S2 (okS_itr oR ok i) hn]
        simp only [Option.bind_some, lt_]
        have k1 : ((1 : Int32) < nI (rich (2 ^ n - 1) (itr n (2 ^ n - 1) vo ra ki se go no he i))) = (1 < rich (2 ^ n - 1) (itr n (2 ^ n - 1) vo ra ki se go no he i)) := lt_nI (a := 1) (by decide) (by have := rb (itr n (2 ^ n - 1) vo ra ki se go no he i); omega)
        simp only [k1]
        by_cases c : 1 < rich (2 ^ n - 1) (itr n (2 ^ n - 1) vo ra ki se go no he i)
        · left
          obtain ⟨M3, e3, A3, S3⟩ := c_on (m := 1) oR (Now_c hN A2).2.1 S2 (okS_itr oR ok i) (by decide)
          refine ⟨M3, ?_, A2.tr A3, by rw [itr_1] at S3; exact S3, fstM_miss hf (by rw [hP]; simp; omega)⟩
          rw [if_pos c, show f_X7_goOn 1 1 M2 = some M3 from e3]
          simp only [Option.bind_some, nI_add1]
        · right
          rw [if_neg c]
          have := fstM_hit hf (P := P) (by rw [hP]; simp; omega) (60 - i)
          rw [show i + 1 + (60 - i) = 61 by omega] at this
          exact ⟨M2, by rw [this]; rfl, A2⟩
      · rintro f M2 ⟨A2, S2, hf⟩
        refine ⟨M2, ?_, A2⟩
        show f_X2_firstOneNote_13 (f + 1) (nI 61) M2 = _
        rw [f_X2_firstOneNote_13, if_pos (show (60 : Int32) < nI 61 by decide), hf]
        rfl
    obtain ⟨M', e', A'⟩ := key
    refine ⟨M', ?_, A'⟩
    unfold f_X9_unison f_X2_firstOneNote
    rw [e1]
    simp only [Option.bind_some]
    rw [e']
    rfl
  · intro M1 A1
    have N1 := Now_c hN A1
    obtain ⟨M2, e2, A2, S2, o2⟩ := m_lay hn N1.2.2.2.2.2.1
    have key : ∃ M', f_X10_unison_6 100 0 M2 = some (eI (fstM P 61), M') ∧ QM M1 M' := by
      refine loopE (fun f i (M3 : Mem) => f_X10_unison_6 f (nI i) M3) 61 (fun i M3 => QM M1 M3 ∧ mS M3 1 n se go (itA n 63 vo ra ki se go no he i) he (ba + i) ∧ mR M3 n vo ra ki ∧ mT M3 63 ∧ fstM P i = none) (fun r => ∃ M', r = some (eI (fstM P 61), M') ∧ QM M1 M') ?_ ?_ 61 0 (by omega) 100 M2 (by omega) ⟨QM.of4 A2 o2, S2, mR_alk N1.2.2.1 A2 (fun b _ e => by omega), mT_alk N1.2.2.2.2.2.2 A2 (by omega), rfl⟩
      · rintro f i M3 hi ⟨A3, S3, R3, T3, hf⟩
        show (∃ s', f_X10_unison_6 (f + 1) (nI i) M3 = _ ∧ _) ∨ ∃ M', f_X10_unison_6 (f + 1) (nI i) M3 = _ ∧ _
        have okb := okB_itA (th := 63) oR (okS_B ok) i
        rw [f_X10_unison_6, if_neg (show ¬ (60 : Int32) < nI i from fun q => absurd ((nI_ltI (a := 60) (by decide) (by omega)).mp q) (by omega)), show (1 : Int32) = nI 1 from rfl, m_count R3 hn S3 T3 (fun i hi => (okb.1 i hi).2.2) (by decide)]
        simp only [lt_]
        have er : rich (2 ^ n - 1) (itA n 63 vo ra ki se go no he i) = rich (2 ^ n - 1) (itr n (2 ^ n - 1) vo ra ki se go no he i) := by rw [itA_63 hn]; exact rich_full (fun j hj => itA_full i j hj)
        rw [er]
        have k1 : ((2 : Int32) ≤ nI (rich (2 ^ n - 1) (itr n (2 ^ n - 1) vo ra ki se go no he i))) = (2 ≤ rich (2 ^ n - 1) (itr n (2 ^ n - 1) vo ra ki se go no he i)) := le_nI (a := 2) (by decide) (by have := rb (itr n (2 ^ n - 1) vo ra ki se go no he i); omega)
        simp only [k1]
        by_cases c : 2 ≤ rich (2 ^ n - 1) (itr n (2 ^ n - 1) vo ra ki se go no he i)
        · left
          obtain ⟨M4, e4, A4, S4, o4⟩ := m_passOn (lv := 1) R3 oR S3 T3 (by decide) okb (by decide)
          refine ⟨M4, ?_, A3.tr (QM.of A4 (fun k hk => o4 k (by omega))), S4, mR_alk R3 A4 (fun b _ e => by omega), mT_alk T3 A4 (by omega), fstM_miss hf (by rw [hP]; simp; omega)⟩
          rw [if_pos c, e4]
          simp only [Option.bind_some]
          rw [show nI i + nI 1 = nI (i + 1) from nI_add i 1]
        · right
          rw [if_neg c]
          have := fstM_hit hf (P := P) (by rw [hP]; simp; omega) (60 - i)
          rw [show i + 1 + (60 - i) = 61 by omega] at this
          exact ⟨M3, by rw [this]; rfl, A3⟩
      · rintro f M3 ⟨A3, -, -, -, hf⟩
        refine ⟨M3, ?_, A3⟩
        show f_X10_unison_6 (f + 1) (nI 61) M3 = _
        rw [f_X10_unison_6, if_pos (show (60 : Int32) < nI 61 by decide), hf]
        rfl
    obtain ⟨M', e', A'⟩ := key
    refine ⟨M', ?_, A'⟩
    unfold f_X10_unison
    rw [e2]
    exact e'
/-! one run of the trial on both sides: gifts or a change first, then bars -/
theorem c_run {M : Mem} {n m : Nat} {vo ra ki se go no : Nat → Nat} {he ba : Nat} (oR : okR n vo ra ki) (hR : cR M n vo ra ki) (h : cS M 1 n (2 ^ n - 1) se go no he ba) (ok : okS n (2 ^ n - 1) se go no he) (hm : m ≤ 60) : ∃ M', f_X7_goOn 1 (nI m) M = some M' ∧ Alk PC M M' ∧ (∀ i, i < n → M'.1 1 3 i = nI (itr n (2 ^ n - 1) vo ra ki se go no he m i)) ∧ f_X7_richness 1 M' = some (nI (rich (2 ^ n - 1) (itr n (2 ^ n - 1) vo ra ki se go no he m))) ∧ cS M' 1 n (2 ^ n - 1) se go (itr n (2 ^ n - 1) vo ra ki se go no he m) he ba := by
  obtain ⟨M', e, A, S⟩ := c_on oR hR h ok hm
  exact ⟨M', e, A, S.2.2.1, c_richness S (okS_itr oR ok m) oR.1, S⟩
theorem m_run {M : Mem} {n m : Nat} {vo ra ki se go no : Nat → Nat} {he ba : Nat} (oR : okR n vo ra ki) (hR : mR M n vo ra ki) (h : mS M 1 n se go no he ba) (hT : mT M 63) (ok : okB n se go no he) (hm : m ≤ 60) : ∃ M', f_X10_goOn (nI m) M = some M' ∧ QM M M' ∧ (∀ i, i < n → M'.1 27 4 (32 + i) = nI (itr n (2 ^ n - 1) vo ra ki se go no he m i)) ∧ (∀ (α : Type) (k : Int32 → Option α), (f_X10_notesOn 1 M').bind (fun q => (f_X10_ones q M').bind k) = k (nI (rich (2 ^ n - 1) (itr n (2 ^ n - 1) vo ra ki se go no he m)))) := by
  obtain ⟨M', e, A, S, o⟩ := m_goOn (m := m) (th := 63) (M := M) hR oR h hT (by decide) ok hm
  refine ⟨M', e, QM.of A o, fun i hi => ?_, fun α k => ?_⟩
  · have g := S.2.2.1 i hi
    rw [show 20 * 1 + 12 + i = 32 + i by omega, itA_63 oR.1, itA_full m i hi] at g
    exact g
  · have := m_count (k := k) (mR_alk hR A (fun b _ e => by omega)) oR.1 S (mT_alk hT A (by omega)) (fun i hi => ((okB_itA oR ok m).1 i hi).2.2) (by decide)
    rw [show nI 1 = (1 : Int32) from rfl] at this
    rw [this, itA_63 oR.1, rich_full (fun i hi => itA_full m i hi)]
theorem m_layQ {M : Mem} {n : Nat} {vo ra ki se go no : Nat → Nat} {he ba : Nat} (hN : Now M n vo ra ki se go no he ba) : ∃ M', f_X10_layTrial M = some M' ∧ QM M M' ∧ mS M' 1 n se go no he ba ∧ mR M' n vo ra ki ∧ mT M' 63 := by
  obtain ⟨M', e, A, S, o⟩ := m_lay hN.1.1 hN.2.2.2.2.2.1
  exact ⟨M', e, QM.of4 A o, S, mR_alk hN.2.2.1 A (fun b _ e => by omega), mT_alk hN.2.2.2.2.2.2 A (by omega)⟩
theorem m_giveQ {M : Mem} {n s k : Nat} {vo ra ki se go no : Nat → Nat} {he ba : Nat} (h : mS M 1 n se go no he ba) (hR : mR M n vo ra ki) (hT : mT M 63) (hn : n ≤ 6) (hs : s < n) (hg : go s < 100) (hk : k < 10) : ∃ M', f_X10_giveOn 1 (nI s) (nI k) M = some M' ∧ QM M M' ∧ mS M' 1 n se (giveF go s k) no he ba ∧ mR M' n vo ra ki ∧ mT M' 63 := by
  obtain ⟨M', e, A, S, o⟩ := m_give (lv := 1) h hn (by decide) hs hg hk
  exact ⟨M', e, QM.of4 A (fun k hk => o k (by omega)), S, mR_alk hR A (fun b _ e => by omega), mT_alk hT A (by omega)⟩
theorem c_giveQ {M : Mem} {n s k : Nat} {vo ra ki se go no : Nat → Nat} {he ba : Nat} (h : cS M 1 n (2 ^ n - 1) se go no he ba) (hR : cR M n vo ra ki) (hn : n ≤ 6) (hs : s < n) (hg : go s < 100) (hk : k < 10) : ∃ M', f_X7_give 1 (nI s) (nI k) M = some M' ∧ Alk PC M M' ∧ cS M' 1 n (2 ^ n - 1) se (giveF go s k) no he ba ∧ cR M' n vo ra ki := by
  obtain ⟨M', e, A, S⟩ := c_give h hn hs hg hk
  have A' : Alk PC M M' := A.wk (fun a b e => Or.inl e.1)
  exact ⟨M', e, A', S, cR_alk hR A' (fun b e => by omega)⟩
def hitG (n : Nat) (vo ra ki se go no : Nat → Nat) (he s note m much who : Nat) : Bool := decide (itr n (2 ^ n - 1) vo ra ki se (giveF go who much) no he m s = note)
/-- the first gift: how much, to whom -/
def lgF (n : Nat) (vo ra ki se go no : Nat → Nat) (he s note m : Nat) : Nat → Option Nat := fun j => fstM (hitG n vo ra ki se go no he s note m (j + 1)) n
theorem c_lg35 {M : Mem} {n s note m much w : Nat} {vo ra ki se go no : Nat → Nat} {he ba : Nat} (hN : Now M n vo ra ki se go no he ba) (hs : s < n) (hno : note < 10) (hm : m ≤ 9) (hmu : much < 10) (k25 : Int32 → Int32 → Int32 → Int32 → Int32 → Mem → Option (Int32 × Mem)) :
    (∃ who M', fstM (hitG n vo ra ki se go no he s note m much) n = some who ∧ f_X2_leastGift_35 k25 100 (nI s) (nI note) (nI m) (nI w) (nI much) 0 M = (if nI w = 0 then some (nI much, M') else some (nI who, M')) ∧ Alk PC M M') ∨
    (∃ M', fstM (hitG n vo ra ki se go no he s note m much) n = none ∧ f_X2_leastGift_35 k25 100 (nI s) (nI note) (nI m) (nI w) (nI much) 0 M = k25 (nI s) (nI note) (nI m) (nI w) (nI (much + 1)) M' ∧ Alk PC M M') := by
  obtain ⟨oR, hcR, hmR, ok, hcS, hmS, hTh⟩ := id hN
  have hn := oR.1
  obtain ⟨P, hP⟩ : ∃ P, P = hitG n vo ra ki se go no he s note m much := ⟨_, rfl⟩
  rw [← hP]
  refine loopE (fun f i (M2 : Mem) => f_X2_leastGift_35 k25 f (nI s) (nI note) (nI m) (nI w) (nI much) (nI i) M2) n (fun i M2 => Alk PC M M2 ∧ fstM P i = none) (fun r => (∃ who M', fstM P n = some who ∧ r = (if nI w = 0 then some (nI much, M') else some (nI who, M')) ∧ Alk PC M M') ∨ (∃ M', fstM P n = none ∧ r = k25 (nI s) (nI note) (nI m) (nI w) (nI (much + 1)) M' ∧ Alk PC M M')) ?_ ?_ n 0 (by omega) 100 M (by omega) ⟨Alk.rf, rfl⟩
  · rintro f i M2 hi ⟨A2, hf⟩
    have N2 := Now_c hN A2
    obtain ⟨M3, e3, A3, S3, N3⟩ := c_lay N2
    obtain ⟨M4, e4, A4, S4, R4⟩ := c_giveQ (k := much) S3 N3.2.1 hn hi (ok.2.1 i hi).2.1 hmu
    obtain ⟨M5, e5, A5, g5, -, -⟩ := c_run oR R4 S4 (okS_give ok) (show m ≤ 60 by omega)
    have A25 := ((A2.tr A3).tr A4).tr A5
    have bnd : itr n (2 ^ n - 1) vo ra ki se (giveF go i much) no he m s < 10 := itr_lt oR (fun i hi => (ok.2.1 i hi).2.2) m s hs
    have k1 : (nI (itr n (2 ^ n - 1) vo ra ki se (giveF go i much) no he m s) = nI note) = (itr n (2 ^ n - 1) vo ra ki se (giveF go i much) no he m s = note) := eq_nI (by omega) (by omega)
    have ev : f_X2_leastGift_35 k25 (f + 1) (nI s) (nI note) (nI m) (nI w) (nI much) (nI i) M2 = if itr n (2 ^ n - 1) vo ra ki se (giveF go i much) no he m s = note then (if nI w = 0 then some (nI much, M5) else some (nI i, M5)) else f_X2_leastGift_35 k25 f (nI s) (nI note) (nI m) (nI w) (nI much) (nI (i + 1)) M5 := by
      rw [f_X2_leastGift_35, N2.2.1.2.2.2, if_neg (nI_ge hi (by omega)), e3]
      simp only [Option.bind_some]
      rw [e4]
      simp only [Option.bind_some]
      rw [e5]
      simp only [Option.bind_some, lt_, nI_add1]
      rw [if_gd (show s < 6 by omega) (by decide), tn_nI (by omega), g5 s hs]
      simp only [k1, f_X2_leastGift_102]
    by_cases c : itr n (2 ^ n - 1) vo ra ki se (giveF go i much) no he m s = note
    · right
      left
      rw [if_pos c] at ev
      have hpi : P i = true := by rw [hP]; unfold hitG; simp [c]
      have := fstM_hit hf hpi (n - 1 - i)
      rw [show i + 1 + (n - 1 - i) = n by omega] at this
      exact ⟨i, M5, this, ev, A25⟩
    · left
      rw [if_neg c] at ev
      exact ⟨M5, ev, A25, fstM_miss hf (by rw [hP]; unfold hitG; simp [c])⟩
  · rintro f M2 ⟨A2, hf⟩
    right
    refine ⟨M2, hf, ?_, A2⟩
    show f_X2_leastGift_35 k25 (f + 1) (nI s) (nI note) (nI m) (nI w) (nI much) (nI n) M2 = _
    rw [f_X2_leastGift_35, (Now_c hN A2).2.1.2.2.2, if_pos (nI_le (Nat.le_refl n) (by omega))]
    simp only [lt_, nI_add1]
theorem m_isSung {M : Mem} {n s note m : Nat} {vo ra ki se go no : Nat → Nat} {he ba : Nat} (oR : okR n vo ra ki) (hR : mR M n vo ra ki) (h : mS M 1 n se go no he ba) (hT : mT M 63) (ok : okB n se go no he) (hs : s < n) (hno : note < 10) (hm : m ≤ 9) : ∃ M', f_X10_isSung_20 (nI s) (nI note) (nI m) M = some (b2 (decide (itr n (2 ^ n - 1) vo ra ki se go no he m s = note)), M') ∧ QM M M' := by
  have hn := oR.1
  obtain ⟨M', e, Q, g, -⟩ := m_run oR hR h hT ok (show m ≤ 60 by omega)
  refine ⟨M', ?_, Q⟩
  have bnd : itr n (2 ^ n - 1) vo ra ki se go no he m s < 10 := itr_lt oR (fun i hi => (ok.1 i hi).2.2) m s hs
  have k1 : (nI (itr n (2 ^ n - 1) vo ra ki se go no he m s) = nI note) = (itr n (2 ^ n - 1) vo ra ki se go no he m s = note) := eq_nI (by omega) (by omega)
  unfold f_X10_isSung_20 f_X10_isSung_43
  rw [e]
  simp only [Option.bind_some, lt_]
  rw [show (32 : Int32) + nI s = nI (32 + s) from nI_add 32 s, if_gd (show 32 + s < 40 by omega) (by decide), tn_nI (by omega), g s hs]
  simp only [k1]
  by_cases c : itr n (2 ^ n - 1) vo ra ki se go no he m s = note
  · rw [if_pos c]; simp [c]; rfl
  · rw [if_neg c]; simp [c]; rfl
theorem m_lg29 {M : Mem} {n s note m much : Nat} {vo ra ki se go no : Nat → Nat} {he ba : Nat} (hN : Now M n vo ra ki se go no he ba) (hs : s < n) (hno : note < 10) (hm : m ≤ 9) (hmu : much < 10) (k19 : Int32 → Int32 → Int32 → Int32 → Mem → Option (Int32 × Mem)) :
    (∃ who M', fstM (hitG n vo ra ki se go no he s note m much) n = some who ∧ f_X10_leastGift_29 k19 100 (nI s) (nI note) (nI m) (nI much) 0 M = some (nI (10 * much + who), M') ∧ QM M M') ∨
    (∃ M', fstM (hitG n vo ra ki se go no he s note m much) n = none ∧ f_X10_leastGift_29 k19 100 (nI s) (nI note) (nI m) (nI much) 0 M = k19 (nI s) (nI note) (nI m) (nI (much + 1)) M' ∧ QM M M') := by
  obtain ⟨oR, hcR, hmR, ok, hcS, hmS, hTh⟩ := id hN
  have hn := oR.1
  obtain ⟨P, hP⟩ : ∃ P, P = hitG n vo ra ki se go no he s note m much := ⟨_, rfl⟩
  rw [← hP]
  refine loopE (fun f i (M2 : Mem) => f_X10_leastGift_29 k19 f (nI s) (nI note) (nI m) (nI much) (nI i) M2) n (fun i M2 => QM M M2 ∧ fstM P i = none) (fun r => (∃ who M', fstM P n = some who ∧ r = some (nI (10 * much + who), M') ∧ QM M M') ∨ (∃ M', fstM P n = none ∧ r = k19 (nI s) (nI note) (nI m) (nI (much + 1)) M' ∧ QM M M')) ?_ ?_ n 0 (by omega) 100 M (by omega) ⟨QM.rf, rfl⟩
  · rintro f i M2 hi ⟨A2, hf⟩
    have N2 := Now_m hN A2
    obtain ⟨M3, e3, A3, S3, R3, T3⟩ := m_layQ N2
    obtain ⟨M4, e4, A4, S4, R4, T4⟩ := m_giveQ (k := much) S3 R3 T3 hn hi (ok.2.1 i hi).2.1 hmu
    obtain ⟨M5, e5, A5⟩ := m_isSung oR R4 S4 T4 (okS_B (okS_give ok)) hs hno hm
    have A25 := ((A2.tr A3).tr A4).tr A5
    have ev : f_X10_leastGift_29 k19 (f + 1) (nI s) (nI note) (nI m) (nI much) (nI i) M2 = if itr n (2 ^ n - 1) vo ra ki se (giveF go i much) no he m s = note then some (nI (10 * much + i), M5) else f_X10_leastGift_29 k19 f (nI s) (nI note) (nI m) (nI much) (nI (i + 1)) M5 := by
      rw [f_X10_leastGift_29, N2.2.2.1.2.2.2, if_neg (nI_ge hi (by omega))]
      unfold f_X10_isSung
      rw [e3]
      simp only [Option.bind_some]
      rw [if_neg (eI_ne (show i < 6 by omega)), e4]
      simp only [Option.bind_some]
      rw [e5]
      simp only [Option.bind_some, if_b2, lt_, nI_add1]
      rw [show (10 : Int32) * nI much = nI (10 * much) from pk_mul 10 much, nI_add]
      by_cases c : itr n (2 ^ n - 1) vo ra ki se (giveF go i much) no he m s = note
      · simp [c]
      · simp [c]
    by_cases c : itr n (2 ^ n - 1) vo ra ki se (giveF go i much) no he m s = note
    · right
      left
      rw [if_pos c] at ev
      have hpi : P i = true := by rw [hP]; unfold hitG; simp [c]
      have := fstM_hit hf hpi (n - 1 - i)
      rw [show i + 1 + (n - 1 - i) = n by omega] at this
      exact ⟨i, M5, this, ev, A25⟩
    · left
      rw [if_neg c] at ev
      exact ⟨M5, ev, A25, fstM_miss hf (by rw [hP]; unfold hitG; simp [c])⟩
  · rintro f M2 ⟨A2, hf⟩
    right
    refine ⟨M2, hf, ?_, A2⟩
    show f_X10_leastGift_29 k19 (f + 1) (nI s) (nI note) (nI m) (nI much) (nI n) M2 = _
    rw [f_X10_leastGift_29, (Now_m hN A2).2.2.1.2.2.2, if_pos (nI_le (Nat.le_refl n) (by omega))]
    simp only [lt_, nI_add1]
