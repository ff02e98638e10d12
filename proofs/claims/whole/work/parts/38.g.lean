def getsR (n : Nat) (vo ra ki se go no : Nat → Nat) (he s note m w : Nat) : Int32 :=
  if itr n (2 ^ n - 1) vo ra ki se go no he m s = note then (if w = 0 then 0 else -9) else match fstM (fun j => (lgF n vo ra ki se go no he s note m j).isSome) 9 with
    | none => -9
    | some j => if w = 0 then nI (j + 1) else eI (lgF n vo ra ki se go no he s note m j)
theorem c_leastGift {M : Mem} {n s note m w : Nat} {vo ra ki se go no : Nat → Nat} {he ba : Nat} (hN : Now M n vo ra ki se go no he ba) (hs : s < n) (hno : note < 10) (hm : m ≤ 9) (hw : w ≤ 1) : ∃ M', f_X2_leastGift (nI s) (nI note) (nI m) (nI w) M = some (getsR n vo ra ki se go no he s note m w, M') ∧ Alk PC M M' := by
  obtain ⟨oR, hcR, hmR, ok, hcS, hmS, hTh⟩ := id hN
  have hn := oR.1
  have kw : (nI w = 0) = (w = 0) := eq_nI (b := 0) (by omega) (by decide)
  obtain ⟨M1, e1, A1, S1, N1⟩ := c_lay hN
  obtain ⟨M2, e2, A2, g2, -, -⟩ := c_run oR N1.2.1 S1 ok (show m ≤ 60 by omega)
  have A12 := A1.tr A2
  have bnd : itr n (2 ^ n - 1) vo ra ki se go no he m s < 10 := itr_lt oR (fun i hi => (ok.2.1 i hi).2.2) m s hs
  have k1 : (nI (itr n (2 ^ n - 1) vo ra ki se go no he m s) = nI note) = (itr n (2 ^ n - 1) vo ra ki se go no he m s = note) := eq_nI (by omega) (by omega)
  have e0 : f_X2_leastGift (nI s) (nI note) (nI m) (nI w) M = if itr n (2 ^ n - 1) vo ra ki se go no he m s = note then (if w = 0 then some (0, M2) else some (-9, M2)) else f_X2_leastGift_25 100 (nI s) (nI note) (nI m) (nI w) 1 M2 := by
    unfold f_X2_leastGift f_X2_leastGift_21 f_X2_noteBehind
    rw [e1]
    simp only [Option.bind_some]
    rw [e2]
    simp only [Option.bind_some]
    rw [if_gd (show s < 6 by omega) (by decide), tn_nI (by omega), g2 s hs]
    simp only [Option.bind_some, k1, kw]
  unfold getsR
  by_cases c : itr n (2 ^ n - 1) vo ra ki se go no he m s = note
  · rw [if_pos c] at e0
    rw [if_pos c]
    refine ⟨M2, ?_, A12⟩
    rw [e0]
    split <;> rfl
  · rw [if_neg c] at e0
    rw [if_neg c, e0]
    obtain ⟨P, hP⟩ : ∃ P : Nat → Bool, P = fun j => (lgF n vo ra ki se go no he s note m j).isSome := ⟨_, rfl⟩
    rw [← hP]
    refine loopE (fun f j (M3 : Mem) => f_X2_leastGift_25 f (nI s) (nI note) (nI m) (nI w) (nI (j + 1)) M3) 9 (fun j M3 => Alk PC M M3 ∧ fstM P j = none) (fun r => ∃ M', r = some ((match fstM P 9 with
      | none => -9
      | some j => if w = 0 then nI (j + 1) else eI (lgF n vo ra ki se go no he s note m j)), M') ∧ Alk PC M M') ?_ ?_ 9 0 (by omega) 100 M2 (by omega) ⟨A12, rfl⟩
    · rintro f j M3 hj ⟨A3, hf⟩
      have N3 := Now_c hN A3
      have ev : f_X2_leastGift_25 (f + 1) (nI s) (nI note) (nI m) (nI w) (nI (j + 1)) M3 = f_X2_leastGift_35 (f_X2_leastGift_25 f) 100 (nI s) (nI note) (nI m) (nI w) (nI (j + 1)) 0 M3 := by
        rw [f_X2_leastGift_25, if_neg (show ¬ (9 : Int32) < nI (j + 1) from fun q => absurd ((nI_ltI (a := 9) (by decide) (by omega)).mp q) (by omega))]
      rcases c_lg35 (w := w) N3 hs hno hm (show j + 1 < 10 by omega) (f_X2_leastGift_25 f) with ⟨who, M4, h1, h2, h3⟩ | ⟨M4, h1, h2, h3⟩
      · right
        have hpj : P j = true := by rw [hP]; show (lgF n vo ra ki se go no he s note m j).isSome = true; unfold lgF; rw [h1]; rfl
        have := fstM_hit hf hpj (8 - j)
        rw [show j + 1 + (8 - j) = 9 by omega] at this
        refine ⟨M4, ?_, A3.tr h3⟩
        show f_X2_leastGift_25 (f + 1) (nI s) (nI note) (nI m) (nI w) (nI (j + 1)) M3 = _
        rw [ev, h2, this]
        simp only [kw]
        have : lgF n vo ra ki se go no he s note m j = some who := h1
        rw [this]
        split <;> rfl
      · left
        refine ⟨M4, ev.trans h2, A3.tr h3, fstM_miss hf ?_⟩
        rw [hP]
        have : lgF n vo ra ki se go no he s note m j = none := h1
        simp [this]
    · rintro f M3 ⟨A3, hf⟩
      refine ⟨M3, ?_, A3⟩
      show f_X2_leastGift_25 (f + 1) (nI s) (nI note) (nI m) (nI w) (nI (9 + 1)) M3 = _
      rw [f_X2_leastGift_25, if_pos (show (9 : Int32) < nI (9 + 1) by decide), hf]
/-- the reference's own answer -/
def getsL (n : Nat) (vo ra ki se go no : Nat → Nat) (he s note m : Nat) : Int32 :=
  if itr n (2 ^ n - 1) vo ra ki se go no he m s = note then 9 else match fstM (fun j => (lgF n vo ra ki se go no he s note m j).isSome) 9 with
    | none => -9
    | some j => match lgF n vo ra ki se go no he s note m j with
      | none => -9
      | some who => nI (10 * (j + 1) + who)
theorem m_leastGift {M : Mem} {n s note m : Nat} {vo ra ki se go no : Nat → Nat} {he ba : Nat} (hN : Now M n vo ra ki se go no he ba) (hs : s < n) (hno : note < 10) (hm : m ≤ 9) : ∃ M', f_X10_leastGift (nI s) (nI note) (nI m) M = some (getsL n vo ra ki se go no he s note m, M') ∧ QM M M' := by
  obtain ⟨oR, hcR, hmR, ok, hcS, hmS, hTh⟩ := id hN
  have hn := oR.1
  obtain ⟨M1, e1, A1, S1, R1, T1⟩ := m_layQ hN
  obtain ⟨M2, e2, A2⟩ := m_isSung oR R1 S1 T1 (okS_B ok) hs hno hm
  have A12 := A1.tr A2
  have e0 : f_X10_leastGift (nI s) (nI note) (nI m) M = if itr n (2 ^ n - 1) vo ra ki se go no he m s = note then some (9, M2) else f_X10_leastGift_19 100 (nI s) (nI note) (nI m) 1 M2 := by
    unfold f_X10_leastGift f_X10_isSung
    rw [e1]
    simp only [Option.bind_some]
    rw [if_pos trivial, e2]
    simp only [Option.bind_some, if_b2]
    by_cases c : itr n (2 ^ n - 1) vo ra ki se go no he m s = note
    · simp [c]
    · simp [c]
  unfold getsL
  by_cases c : itr n (2 ^ n - 1) vo ra ki se go no he m s = note
  · rw [if_pos c] at e0
    rw [if_pos c]
    exact ⟨M2, e0, A12⟩
  · rw [if_neg c] at e0
    rw [if_neg c, e0]
    obtain ⟨P, hP⟩ : ∃ P : Nat → Bool, P = fun j => (lgF n vo ra ki se go no he s note m j).isSome := ⟨_, rfl⟩
    rw [← hP]
    refine loopE (fun f j (M3 : Mem) => f_X10_leastGift_19 f (nI s) (nI note) (nI m) (nI (j + 1)) M3) 9 (fun j M3 => QM M M3 ∧ fstM P j = none) (fun r => ∃ M', r = some ((match fstM P 9 with
      | none => -9
      | some j => match lgF n vo ra ki se go no he s note m j with
        | none => -9
        | some who => nI (10 * (j + 1) + who)), M') ∧ QM M M') ?_ ?_ 9 0 (by omega) 100 M2 (by omega) ⟨A12, rfl⟩
    · rintro f j M3 hj ⟨A3, hf⟩
      have N3 := Now_m hN A3
      have ev : f_X10_leastGift_19 (f + 1) (nI s) (nI note) (nI m) (nI (j + 1)) M3 = f_X10_leastGift_29 (f_X10_leastGift_19 f) 100 (nI s) (nI note) (nI m) (nI (j + 1)) 0 M3 := by
        rw [f_X10_leastGift_19, if_neg (show ¬ (10 : Int32) ≤ nI (j + 1) from fun q => absurd ((nI_leI (a := 10) (by decide) (by omega)).mp q) (by omega))]
      rcases m_lg29 N3 hs hno hm (show j + 1 < 10 by omega) (f_X10_leastGift_19 f) with ⟨who, M4, h1, h2, h3⟩ | ⟨M4, h1, h2, h3⟩
      · right
        have hpj : P j = true := by rw [hP]; show (lgF n vo ra ki se go no he s note m j).isSome = true; unfold lgF; rw [h1]; rfl
        have := fstM_hit hf hpj (8 - j)
        rw [show j + 1 + (8 - j) = 9 by omega] at this
        refine ⟨M4, ?_, A3.tr h3⟩
        show f_X10_leastGift_19 (f + 1) (nI s) (nI note) (nI m) (nI (j + 1)) M3 = _
        have hw : lgF n vo ra ki se go no he s note m j = some who := h1
        rw [ev, h2, this]
        simp only [hw]
      · left
        refine ⟨M4, ev.trans h2, A3.tr h3, fstM_miss hf ?_⟩
        rw [hP]
        have : lgF n vo ra ki se go no he s note m j = none := h1
        simp [this]
    · rintro f M3 ⟨A3, hf⟩
      refine ⟨M3, ?_, A3⟩
      show f_X10_leastGift_19 (f + 1) (nI s) (nI note) (nI m) (nI (9 + 1)) M3 = _
      rw [f_X10_leastGift_19, if_pos (show (10 : Int32) ≤ nI (9 + 1) by decide), hf]
theorem fstM_lt {P : Nat → Bool} : ∀ {k j : Nat}, fstM P k = some j → j < k ∧ P j = true := by
  intro k
  induction k with
  | zero => intro j h; cases h
  | succ k ih =>
    intro j h
    simp only [fstM] at h
    cases e : fstM P k with
    | some q => rw [e] at h; cases h; have := ih e; exact ⟨by omega, this.2⟩
    | none =>
      rw [e] at h
      by_cases c : P k = true
      · simp [c] at h; subst h; exact ⟨by omega, c⟩
      · simp [c] at h
theorem gets_tab : ∀ j, j < 9 → ∀ w, w < 6 → (¬ nI (10 * (j + 1) + w) = (-9 : Int32)) ∧ nI (10 * (j + 1) + w) / 10 = nI (j + 1) ∧ (¬ nI (10 * (j + 1) + w) = 9) ∧ nI (10 * (j + 1) + w) - nI (10 * (j + 1) + w) / 10 * 10 = nI w := by decide +kernel
theorem op_gets (v1 v2 v3 v4 : Int32) : Op (f_X9_gets v1 v2 v3 v4) (f_X10_gets v1 v2 v3 v4) := by
  intro M hI
  obtain ⟨⟨n, vo, ra, ki, se, go, no, he, ba, hN, -, -⟩, -, -, -⟩ := id hI
  obtain ⟨oR, hcR, hmR, ok, hcS, hmS, hTh⟩ := id hN
  have hn := oR.1
  unfold f_X9_gets f_X9_gets_43 f_X9_gets_64 f_X10_gets f_X10_gets_45 f_X10_gets_97
  rw [c_isSinger hcS.2.2.2.1 hn, show f_X9_isWithin v2 0 9 M = some (b2 (wi 0 9 v2)) from c_within, show f_X9_isWithin v3 1 9 M = some (b2 (wi 1 9 v3)) from c_within, show f_X9_isWithin v4 0 1 M = some (b2 (wi 0 1 v4)) from c_within]
  simp only [Option.bind_some, if_b2, show ∀ M1, f_X10_in v2.toInt64 0 9 M1 = some (b2 (wi 0 9 v2)) from fun M1 => m_within, show ∀ M1, f_X10_in v3.toInt64 1 9 M1 = some (b2 (wi 1 9 v3)) from fun M1 => m_within, show ∀ M1, f_X10_in v4.toInt64 0 1 M1 = some (b2 (wi 0 1 v4)) from fun M1 => m_within]
  by_cases h1 : isS n v1 = true
  · by_cases h2 : wi 0 9 v2 = true
    · by_cases h3 : wi 1 9 v3 = true
      · by_cases h4 : wi 0 1 v4 = true
        · obtain ⟨s, hs, rfl⟩ := isS_true hn h1
          obtain ⟨note, rfl, -, hno⟩ := wi_true (lo := 0) (hi := 9) h2 (by decide)
          obtain ⟨m, rfl, -, hm⟩ := wi_true (lo := 1) (hi := 9) h3 (by decide)
          obtain ⟨w, rfl, -, hw⟩ := wi_true (lo := 0) (hi := 1) h4 (by decide)
          refine opQ hI (r := getsR n vo ra ki se go no he s note m w) ?_ ?_
          · obtain ⟨M1, e1, A1⟩ := c_leastGift hN hs (show note < 10 by omega) hm hw
            refine ⟨M1, ?_, A1⟩
            rw [if_pos h1, if_pos h2, if_pos h3, if_pos h4]
            have k1 : (nI w = 1) = (w = 1) := eq_nI (b := 1) (by omega) (by decide)
            simp only [k1]
            rcases (show w = 0 ∨ w = 1 by omega) with rfl | rfl
            · rw [if_neg (by decide), show (0 : Int32) = nI 0 from rfl, e1]; rfl
            · rw [if_pos rfl, show (1 : Int32) = nI 1 from rfl, e1]; rfl
          · intro M1 A1
            have N1 := Now_c hN A1
            obtain ⟨M2, e2, A2⟩ := m_leastGift N1 hs (show note < 10 by omega) hm
            refine ⟨M2, ?_, A2⟩
            rw [m_isSinger N1.2.2.1.2.2.2 hn]
            simp only [Option.bind_some, if_b2]
            rw [if_pos h1, if_pos h2, if_pos h3, if_pos h4, e2]
            simp only [Option.bind_some]
            have kw : (nI w = 0) = (w = 0) := eq_nI (b := 0) (by omega) (by decide)
            simp only [kw]
            unfold getsL getsR
            by_cases c : itr n (2 ^ n - 1) vo ra ki se go no he m s = note
            · rw [if_pos c, if_pos c]
              rcases (show w = 0 ∨ w = 1 by omega) with rfl | rfl <;> rfl
            · rw [if_neg c, if_neg c]
              cases e : fstM (fun j => (lgF n vo ra ki se go no he s note m j).isSome) 9 with
              | none => rfl
              | some j =>
                obtain ⟨hj, hp⟩ := fstM_lt e
                simp only
                cases e' : lgF n vo ra ki se go no he s note m j with
                | none => rw [e'] at hp; cases hp
                | some who =>
                  have hwho : who < n := (fstM_lt (show fstM (hitG n vo ra ki se go no he s note m (j + 1)) n = some who from e')).1
                  obtain ⟨t1, t2, t3, t4⟩ := gets_tab j hj who (by omega)
                  simp only
                  rw [if_neg t1]
                  rcases (show w = 0 ∨ w = 1 by omega) with rfl | rfl
                  · rw [if_pos rfl, if_pos rfl, t2]
                  · rw [if_neg (by decide), if_neg t3, if_neg (by decide), t4]; rfl
        · refine ⟨-2, M, M, by rw [if_pos h1, if_pos h2, if_pos h3, if_neg h4], ?_, hI⟩
          rw [m_isSinger hmR.2.2.2 hn]
          simp only [Option.bind_some, if_b2]
          rw [if_pos h1, if_pos h2, if_pos h3, if_neg h4]
      · refine ⟨-2, M, M, by rw [if_pos h1, if_pos h2, if_neg h3], ?_, hI⟩
        rw [m_isSinger hmR.2.2.2 hn]
        simp only [Option.bind_some, if_b2]
        rw [if_pos h1, if_pos h2, if_neg h3]
    · refine ⟨-2, M, M, by rw [if_pos h1, if_neg h2], ?_, hI⟩
      rw [m_isSinger hmR.2.2.2 hn]
      simp only [Option.bind_some, if_b2]
      rw [if_pos h1, if_neg h2]
  · refine ⟨-1, M, M, by rw [if_neg h1], ?_, hI⟩
    rw [m_isSinger hmR.2.2.2 hn]
    simp only [Option.bind_some, if_b2]
    rw [if_neg h1]
