/-! what one had -/
def allF (P : Nat → Bool) : Nat → Bool
  | 0 => true
  | k + 1 => allF P k && P k
theorem allF_iff {P : Nat → Bool} : ∀ {k : Nat}, allF P k = true ↔ ∀ i, i < k → P i = true := by
  intro k
  induction k with
  | zero => simp [allF]
  | succ k ih =>
    simp only [allF, Bool.and_eq_true, ih]
    constructor
    · rintro ⟨h1, h2⟩ i hi
      by_cases e : i = k
      · rw [e]; exact h2
      · exact h1 i (by omega)
    · intro h
      exact ⟨fun i hi => h i (by omega), h k (by omega)⟩
theorem allF_miss {P : Nat → Bool} {i N : Nat} (hi : i < N) (h : P i = false) : allF P N = false := by
  cases e : allF P N with
  | false => rfl
  | true => rw [allF_iff.mp e i hi] at h; cases h
def HrdX (M : Mem) (hn : Nat) (hs ht hv : Nat → Nat) : Prop := hn ≤ 6 ∧ M.1 23 0 3 = nI hn ∧ M.1 27 0 18 = nI hn ∧ ∀ i, i < hn → hs i < 6 ∧ ht i < 10 ∧ hv i < 10 ∧ M.1 23 1 i = nI (hs i) ∧ M.1 23 2 i = nI (ht i) ∧ M.1 23 3 i = nI (hv i) ∧ M.1 27 10 i = nI (hs i) ∧ M.1 27 11 i = nI (ht i) ∧ M.1 27 12 i = nI (hv i)
theorem HrdX_c {M M' : Mem} {hn : Nat} {hs ht hv : Nat → Nat} (h : HrdX M hn hs ht hv) (hA : Alk PC M M') : HrdX M' hn hs ht hv := by
  unfold HrdX at *
  rw [hA.1 23 0 (by omega), hA.1 23 1 (by omega), hA.1 23 2 (by omega), hA.1 23 3 (by omega), hA.1 27 0 (by omega), hA.1 27 10 (by omega), hA.1 27 11 (by omega), hA.1 27 12 (by omega)]
  exact h
theorem HrdX_m {M M' : Mem} {hn : Nat} {hs ht hv : Nat → Nat} (h : HrdX M hn hs ht hv) (hA : QM M M') : HrdX M' hn hs ht hv := by
  unfold HrdX at *
  rw [hA.1 23 0 (by omega), hA.1 23 1 (by omega), hA.1 23 2 (by omega), hA.1 23 3 (by omega), hA.2.2.1 18 (by omega), hA.1 27 10 (by omega), hA.1 27 11 (by omega), hA.1 27 12 (by omega)]
  exact h
def setF (go : Nat → Nat) (s g : Nat) : Nat → Nat := fun i => if i = s then g else go i
theorem okS_set {n th s g : Nat} {se go no : Nat → Nat} {he : Nat} (ok : okS n th se go no he) (hg : g < 100) : okS n th se (setF go s g) no he := by
  refine ⟨ok.1, fun i hi => ⟨(ok.2.1 i hi).1, ?_, (ok.2.1 i hi).2.2⟩, ok.2.2⟩
  unfold setF
  split
  · exact hg
  · exact (ok.2.1 i hi).2.1
def hedP (n : Nat) (hs ht hv no : Nat → Nat) (t i : Nat) : Bool := decide (ht i ≠ t) || (!decide (hs i < n) || decide (no (hs i) = hv i))
theorem c_allows {M : Mem} {n t hn : Nat} {se go no hs ht hv : Nat → Nat} {he ba : Nat} (h : cS M 1 n (2 ^ n - 1) se go no he ba) (ok : okS n (2 ^ n - 1) se go no he) (hn6 : n ≤ 6) (hX : HrdX M hn hs ht hv) (htt : t < 10) : f_X3_allowsAt 1 (nI t) M = some (b2 (allF (hedP n hs ht hv no t) hn)) := by
  have hth : 2 ^ n - 1 < 64 := Nat.lt_of_lt_of_le (full_lt n) (two6 hn6)
  obtain ⟨x1, x2, -, x4⟩ := hX
  unfold f_X3_allowsAt
  have := loopE (fun f i (_ : Unit) => f_X3_allowsAt_2 1 M f (nI t) (nI i)) hn (fun i _ => allF (hedP n hs ht hv no t) i = true) (fun r => r = some (b2 (allF (hedP n hs ht hv no t) hn))) ?_ ?_ hn 0 (by omega) 100 () (by omega) rfl
  · exact this
  · rintro f i _ hi ha
    obtain ⟨y1, y2, y3, y4, y5, y6, -⟩ := x4 i hi
    show (∃ s' : Unit, f_X3_allowsAt_2 1 M (f + 1) (nI t) (nI i) = _ ∧ _) ∨ f_X3_allowsAt_2 1 M (f + 1) (nI t) (nI i) = _
    have step : f_X3_allowsAt_61 1 M (f_X3_allowsAt_2 1 M f) (nI t) (nI i) = f_X3_allowsAt_2 1 M f (nI t) (nI (i + 1)) := by
      unfold f_X3_allowsAt_61
      rw [lt_, nI_add1]
    rw [f_X3_allowsAt_2, x2, if_neg (nI_ge hi (by omega)), if_neg (n6i (show i < 6 by omega)), if_gd (show i < 6 by omega) (by decide), lt_, if_gd (show i < 6 by omega) (by decide), tn_nI (by omega), y4, y5, y6, c_isThere h.2.2.2.1 hth (by omega), tb_full]
    have k1 : (nI (ht i) = nI t) = (ht i = t) := eq_nI (by omega) (by omega)
    simp only [k1, Option.bind_some, if_b2]
    by_cases c1 : ht i = t
    · rw [if_pos c1]
      by_cases c2 : hs i < n
      · rw [if_pos (by simpa using c2), if_gd y1 (by decide), if_pos (show ¬ (nI i < 0 ∨ 6 ≤ i) from fun q => q.elim (nI_pos (by omega)) (by omega)), tn_nI (by omega), h.2.2.1 _ c2]
        have b1 := (ok.2.1 _ c2).2.2
        have k2 : (nI (no (hs i)) = nI (hv i)) = (no (hs i) = hv i) := eq_nI (by omega) (by omega)
        simp only [k2]
        by_cases c3 : no (hs i) = hv i
        · left
          exact ⟨(), by rw [if_pos c3, step], by simp [allF, ha, hedP, c3]⟩
        · right
          rw [if_neg c3, allF_miss hi (by simp [hedP, c1, c2, c3])]
          rfl
      · left
        exact ⟨(), by rw [if_neg (by simpa using c2), step], by simp [allF, ha, hedP]; omega⟩
    · left
      exact ⟨(), by rw [if_neg c1, step], by simp [allF, ha, hedP, c1]⟩
  · rintro f _ ha
    show f_X3_allowsAt_2 1 M (f + 1) (nI t) (nI hn) = _
    rw [f_X3_allowsAt_2, x2, if_pos (nI_le (Nat.le_refl hn) (by omega)), ha]
    rfl
theorem c_allHeard {M : Mem} {n hn : Nat} {vo ra ki se go no hs ht hv : Nat → Nat} {he ba : Nat} (oR : okR n vo ra ki) (hR : cR M n vo ra ki) (h : cS M 1 n (2 ^ n - 1) se go no he ba) (ok : okS n (2 ^ n - 1) se go no he) (hX : HrdX M hn hs ht hv) : ∃ M', f_X2_isAllHeard M = some (b2 (allF (fun t => allF (hedP n hs ht hv (itr n (2 ^ n - 1) vo ra ki se go no he t) t) hn) 10), M') ∧ Alk PC M M' := by
  obtain ⟨P, hP⟩ : ∃ P : Nat → Bool, P = fun t => allF (hedP n hs ht hv (itr n (2 ^ n - 1) vo ra ki se go no he t) t) hn := ⟨_, rfl⟩
  rw [← hP]
  unfold f_X2_isAllHeard
  refine loopE (fun f t (M1 : Mem) => f_X2_isAllHeard_2 f (nI t) M1) 10 (fun t M1 => Alk PC M M1 ∧ cS M1 1 n (2 ^ n - 1) se go (itr n (2 ^ n - 1) vo ra ki se go no he t) he ba ∧ allF P t = true) (fun r => ∃ M', r = some (b2 (allF P 10), M') ∧ Alk PC M M') ?_ ?_ 10 0 (by omega) 100 M (by omega) ⟨Alk.rf, h, rfl⟩
  · rintro f t M1 ht1 ⟨A1, S1, a1⟩
    show (∃ s', f_X2_isAllHeard_2 (f + 1) (nI t) M1 = _ ∧ _) ∨ ∃ M', f_X2_isAllHeard_2 (f + 1) (nI t) M1 = _ ∧ _
    rw [f_X2_isAllHeard_2, if_neg (show ¬ (9 : Int32) < nI t from fun q => absurd ((nI_ltI (a := 9) (by decide) (by omega)).mp q) (by omega)), c_allows S1 (okS_itr oR ok t) oR.1 (HrdX_c hX A1) ht1]
    have eP : allF (hedP n hs ht hv (itr n (2 ^ n - 1) vo ra ki se go no he t) t) hn = P t := by rw [hP]
    rw [eP]
    simp only [Option.bind_some, if_b2]
    by_cases c : P t = true
    · left
      obtain ⟨M2, e2, A2, S2⟩ := c_on (m := 1) oR (cR_alk hR A1 (fun b e => by omega)) S1 (okS_itr oR ok t) (by decide)
      refine ⟨M2, ?_, A1.tr A2, by rw [itr_1] at S2; exact S2, by simp [allF, a1, c]⟩
      rw [if_pos c, show f_X7_goOn 1 1 M1 = some M2 from e2]
      simp only [Option.bind_some, lt_, nI_add1]
    · right
      refine ⟨M1, ?_, A1⟩
      rw [if_neg c, allF_miss ht1 (by simpa using c)]
      rfl
  · rintro f M1 ⟨A1, -, a1⟩
    refine ⟨M1, ?_, A1⟩
    show f_X2_isAllHeard_2 (f + 1) (nI 10) M1 = _
    rw [f_X2_isAllHeard_2, if_pos (show (9 : Int32) < nI 10 by decide), a1]
    rfl
/-- fits: what the document asks -/
def fitB (n : Nat) (vo ra ki se go no : Nat → Nat) (he hn : Nat) (hs ht hv : Nat → Nat) (s g : Nat) : Bool := allF (fun i => !decide (hs i < n) || decide (itr n (2 ^ n - 1) vo ra ki se (setF go s g) no he (ht i) (hs i) = hv i)) hn
theorem fit_eq {n : Nat} {vo ra ki se go no : Nat → Nat} {he hn : Nat} {hs ht hv : Nat → Nat} {s g : Nat} (h : ∀ i, i < hn → ht i < 10) : allF (fun t => allF (hedP n hs ht hv (itr n (2 ^ n - 1) vo ra ki se (setF go s g) no he t) t) hn) 10 = fitB n vo ra ki se go no he hn hs ht hv s g := by
  apply Bool.eq_iff_iff.mpr
  unfold fitB
  rw [allF_iff, allF_iff]
  constructor
  · intro q i hi
    have := allF_iff.mp (q (ht i) (h i hi)) i hi
    unfold hedP at this
    simpa using this
  · intro q t _
    rw [allF_iff]
    intro i hi
    have := q i hi
    unfold hedP
    by_cases e : ht i = t
    · subst e; simpa using this
    · simp [e]
theorem c_had {M : Mem} {n s hn : Nat} {vo ra ki se go no hs ht hv : Nat → Nat} {he ba : Nat} (hN : Now M n vo ra ki se go no he ba) (hX : HrdX M hn hs ht hv) (hs1 : s < n) : ∃ M', f_X2_goodsThatFit (nI s) M = some (nI (mskF (fitB n vo ra ki se go no he hn hs ht hv s) (fun g => g) 10), M') ∧ Alk PC M M' := by
  obtain ⟨oR, hcR, hmR, ok, hcS, hmS, hTh⟩ := id hN
  have hn6 := oR.1
  obtain ⟨P, hP⟩ : ∃ P : Nat → Bool, P = fitB n vo ra ki se go no he hn hs ht hv s := ⟨_, rfl⟩
  rw [← hP]
  unfold f_X2_goodsThatFit
  refine loopE (fun f g (y : Nat × Mem) => f_X2_goodsThatFit_5 f (nI s) (nI y.1) (nI g) y.2) 10 (fun g y => y.1 = mskF P (fun g => g) g ∧ Alk PC M y.2) (fun r => ∃ M', r = some (nI (mskF P (fun g => g) 10), M') ∧ Alk PC M M') ?_ ?_ 10 0 (by omega) 100 (0, M) (by omega) ⟨rfl, Alk.rf⟩
  · rintro f g ⟨x, M1⟩ hg ⟨hx, A1⟩
    simp only at hx A1
    subst hx
    left
    have N1 := Now_c hN A1
    obtain ⟨M2, e2, A2, S2, N2⟩ := c_lay N1
    have A3 : Alk (fun a b => a = 1 ∧ b = 2) M2 (sw M2 1 2 s (nI g)) := Alk.sw ⟨rfl, rfl⟩
    have A3' : Alk PC M2 (sw M2 1 2 s (nI g)) := A3.wk (fun a b e => Or.inl e.1)
    have S3 : cS (sw M2 1 2 s (nI g)) 1 n (2 ^ n - 1) se (setF go s g) no he ba := ⟨fun i hi => by rw [A3.1 1 1 (by omega)]; exact S2.1 i hi, fun i hi => by
      rw [sw_same]
      unfold setF
      by_cases e : i = s
      · rw [e, upd_same, if_pos rfl]
      · rw [upd_ne e, if_neg e]; exact S2.2.1 i hi, fun i hi => by rw [A3.1 1 3 (by omega)]; exact S2.2.2.1 i hi, by rw [A3.1 1 0 (by omega)]; exact S2.2.2.2⟩
    obtain ⟨M4, e4, A4⟩ := c_allHeard oR (Now_c N2 A3').2.1 S3 (okS_set ok (show g < 100 by omega)) (HrdX_c (HrdX_c (HrdX_c hX A1) A2) A3')
    rw [fit_eq (fun i hi => (hX.2.2.2 i hi).2.1)] at e4
    have e0 : mskF P (fun g => g) (g + 1) = if P g = true then mskF P (fun g => g) g ||| 2 ^ g else mskF P (fun g => g) g := by rw [mskF]
    refine ⟨(mskF P (fun g => g) (g + 1), M4), ?_, rfl, ((A1.tr A2).tr A3').tr A4⟩
    show f_X2_goodsThatFit_5 (f + 1) (nI s) (nI (mskF P (fun g => g) g)) (nI g) M1 = f_X2_goodsThatFit_5 f (nI s) (nI (mskF P (fun g => g) (g + 1))) (nI (g + 1)) M4
    rw [f_X2_goodsThatFit_5, if_neg (show ¬ (9 : Int32) < nI g from fun q => absurd ((nI_ltI (a := 9) (by decide) (by omega)).mp q) (by omega)), e2]
    simp only [Option.bind_some]
    rw [if_gd (show s < 6 by omega) (by decide), lt_, tn_nI (by omega), e4]
    simp only [Option.bind_some, if_b2]
    unfold f_X2_goodsThatFit_49
    simp only [lt_]
    rw [nI_add1, shl1 (by omega), nI_or, e0, show fitB n vo ra ki se go no he hn hs ht hv s g = P g from by rw [hP]]
    split <;> rfl
  · rintro f ⟨x, M1⟩ ⟨hx, A1⟩
    simp only at hx A1
    subst hx
    refine ⟨M1, ?_, A1⟩
    show f_X2_goodsThatFit_5 (f + 1) (nI s) (nI (mskF P (fun g => g) 10)) (nI 10) M1 = _
    rw [f_X2_goodsThatFit_5, if_pos (show (9 : Int32) < nI 10 by decide)]
theorem m_mayHave {M : Mem} {n s g hn : Nat} {vo ra ki se go no hs ht hv : Nat → Nat} {he ba : Nat} (hN : Now M n vo ra ki se go no he ba) (hX : HrdX M hn hs ht hv) (hs1 : s < n) (hg : g < 10) : ∃ M', f_X10_mayHave (nI s) (nI g) M = some (b2 (fitB n vo ra ki se go no he hn hs ht hv s g), M') ∧ QM M M' := by
  obtain ⟨oR, hcR, hmR, ok, hcS, hmS, hTh⟩ := id hN
  have hn6 := oR.1
  obtain ⟨P, hP⟩ : ∃ P : Nat → Bool, P = fun i => !decide (hs i < n) || decide (itr n (2 ^ n - 1) vo ra ki se (setF go s g) no he (ht i) (hs i) = hv i) := ⟨_, rfl⟩
  have eP : fitB n vo ra ki se go no he hn hs ht hv s g = allF P hn := by rw [hP]; rfl
  rw [eP]
  unfold f_X10_mayHave
  have hh := hX.1
  refine loopE (fun f i (y : Bool × Mem) => f_X10_mayHave_5 f (nI s) (nI g) (b2 y.1) (nI i) y.2) hn (fun i y => y.1 = allF P i ∧ QM M y.2) (fun r => ∃ M', r = some (b2 (allF P hn), M') ∧ QM M M') ?_ ?_ hn 0 (by omega) 100 (true, M) (by omega) ⟨rfl, QM.rf⟩
  · rintro f i ⟨x, M1⟩ hi ⟨hx, Q1⟩
    simp only at hx Q1
    subst hx
    left
    have N1 := Now_m hN Q1
    obtain ⟨x1, x2, x3, x4⟩ := HrdX_m hX Q1
    obtain ⟨y1, y2, y3, -, -, -, y7, y8, y9⟩ := x4 i hi
    obtain ⟨M2, e2, Q2, S2, R2, T2⟩ := m_layQ N1
    have A3 : Alk (fun a b => a = 27 ∧ b = 4) M2 (sw M2 27 4 (26 + s) (nI g)) := Alk.sw ⟨rfl, rfl⟩
    have o3 : ∀ j, j ≠ 26 + s → (sw M2 27 4 (26 + s) (nI g)).1 27 4 j = M2.1 27 4 j := fun j hj => by rw [sw_same, upd_ne hj]
    have Q3 : QM M2 (sw M2 27 4 (26 + s) (nI g)) := QM.of4 A3 (fun k hk => o3 k (by omega))
    have S3 : mS (sw M2 27 4 (26 + s) (nI g)) 1 n se (setF go s g) no he ba := ⟨fun j hj => by rw [o3 _ (by omega)]; exact S2.1 j hj, fun j hj => by
      unfold setF
      by_cases e : j = s
      · rw [e, if_pos rfl, show 20 * 1 + 6 + s = 26 + s from rfl, sw_same, upd_same]
      · rw [if_neg e, o3 _ (by omega)]; exact S2.2.1 j hj, fun j hj => by rw [o3 _ (by omega)]; exact S2.2.2.1 j hj, by rw [o3 _ (by omega)]; exact S2.2.2.2.1, by rw [o3 _ (by omega)]; exact S2.2.2.2.2⟩
    have ok3 := okS_set (s := s) ok (show g < 100 by omega)
    obtain ⟨M4, e4, Q4, n4, -⟩ := m_run (m := ht i) oR (mR_alk R2 A3 (fun b _ e => by omega)) S3 (mT_alk T2 A3 (by omega)) (okS_B ok3) (by omega)
    have Q14 := (Q2.tr Q3).tr Q4
    obtain ⟨z1, z2, z3, z4⟩ := HrdX_m ⟨x1, x2, x3, x4⟩ Q14
    obtain ⟨-, -, -, -, -, -, w7, w8, w9⟩ := z4 i hi
    have N4 := Now_m N1 Q14
    have e11 : (sw M2 27 4 (26 + s) (nI g)).1 27 11 i = nI (ht i) := by rw [Q3.1 27 11 (by omega), Q2.1 27 11 (by omega)]; exact y8
    refine ⟨(allF P (i + 1), M4), ?_, rfl, Q1.tr Q14⟩
    show f_X10_mayHave_5 (f + 1) (nI s) (nI g) (b2 (allF P i)) (nI i) M1 = f_X10_mayHave_5 f (nI s) (nI g) (b2 (allF P i && P i)) (nI (i + 1)) M4
    have step : ∀ b : Bool, f_X10_mayHave_87 (f_X10_mayHave_5 f) (nI s) (nI g) (nI i) (b2 b) M4 = f_X10_mayHave_5 f (nI s) (nI g) (b2 b) (nI (i + 1)) M4 := fun b => by
      unfold f_X10_mayHave_87
      rw [lt_, nI_add1]
    have st0 : f_X10_mayHave_86 (f_X10_mayHave_5 f) (nI s) (nI g) (nI i) M4 = f_X10_mayHave_5 f (nI s) (nI g) (b2 false) (nI (i + 1)) M4 := step false
    have st1 : f_X10_mayHave_82 (f_X10_mayHave_5 f) (nI s) (nI g) (nI i) M4 = f_X10_mayHave_5 f (nI s) (nI g) (b2 true) (nI (i + 1)) M4 := step true
    have gi : ¬ (nI i < 0 ∨ 6 ≤ i) := fun q => q.elim (nI_pos (by omega)) (by omega)
    rw [f_X10_mayHave_5, x3, if_neg (nI_ge hi (by omega)), e2]
    simp only [Option.bind_some]
    rw [lt_, show (26 : Int32) + nI s = nI (26 + s) from nI_add 26 s, if_gd (show 26 + s < 40 by omega) (by decide), lt_, tn_nI (show i < 2 ^ 31 by omega), if_pos gi, tn_nI (show 26 + s < 2 ^ 31 by omega), e11, e4]
    simp only [Option.bind_some, if_b2, st0, st1]
    cases ha : allF P i with
    | false => rfl
    | true =>
      rw [if_pos rfl, if_pos gi, w7, m_isSinger N4.2.2.1.2.2.2 hn6, isS_nI (by omega)]
      simp only [Option.bind_some, if_b2]
      by_cases c2 : hs i < n
      · have b1 := ((okS_itr oR ok3 (ht i)).2.1 _ c2).2.2
        rw [if_pos (by simpa using c2), if_pos gi, lt_, show (32 : Int32) + nI (hs i) = nI (32 + hs i) from nI_add 32 _, if_gd (show 32 + hs i < 40 by omega) (by decide), tn_nI (show 32 + hs i < 2 ^ 31 by omega), n4 _ c2, w9]
        have k2 : (nI (itr n (2 ^ n - 1) vo ra ki se (setF go s g) no he (ht i) (hs i)) = nI (hv i)) = (itr n (2 ^ n - 1) vo ra ki se (setF go s g) no he (ht i) (hs i) = hv i) := eq_nI (by omega) (by omega)
        simp only [k2, if_pos gi]
        by_cases c3 : itr n (2 ^ n - 1) vo ra ki se (setF go s g) no he (ht i) (hs i) = hv i
        · rw [if_pos c3, show P i = true from by rw [hP]; simp [c3]]
          rfl
        · rw [if_neg c3, show P i = false from by rw [hP]; simp [c2, c3]]
          rfl
      · rw [if_neg (by simpa using c2), show P i = true from by rw [hP]; simp [c2]]
        rfl
  · rintro f ⟨x, M1⟩ ⟨hx, Q1⟩
    simp only at hx Q1
    subst hx
    obtain ⟨x1, x2, x3, x4⟩ := HrdX_m hX Q1
    refine ⟨M1, ?_, Q1⟩
    show f_X10_mayHave_5 (f + 1) (nI s) (nI g) (b2 (allF P hn)) (nI hn) M1 = _
    rw [f_X10_mayHave_5, x3, if_pos (nI_le (Nat.le_refl hn) (by omega)), if_pos (b2_01 _)]
theorem op_had (v : Int32) : Op (f_X9_had v) (f_X10_had v) := by
  intro M hI
  obtain ⟨⟨n, vo, ra, ki, se, go, no, he, ba, hN, -, -⟩, ⟨hn, hs, ht, hv, hX⟩, -, -⟩ := id hI
  have hX : HrdX M hn hs ht hv := hX
  have hn6 := hN.1.1
  unfold f_X9_had f_X10_had f_X9_had_27
  rw [c_isSinger hN.2.2.2.2.1.2.2.2.1 hn6]
  simp only [Option.bind_some, if_b2]
  by_cases h : isS n v = true
  · obtain ⟨s, hs1, rfl⟩ := isS_true hn6 h
    refine opQ hI (r := nI (mskF (fitB n vo ra ki se go no he hn hs ht hv s) (fun g => g) 10)) ?_ ?_
    · obtain ⟨M', e', A'⟩ := c_had hN hX hs1
      refine ⟨M', ?_, A'⟩
      rw [if_pos h, e']
      rfl
    · intro M1 A1
      have N1 := Now_c hN A1
      have X1 := HrdX_c hX A1
      rw [m_isSinger N1.2.2.1.2.2.2 hn6]
      simp only [Option.bind_some, if_b2]
      rw [if_pos h]
      obtain ⟨P, hP⟩ : ∃ P : Nat → Bool, P = fitB n vo ra ki se go no he hn hs ht hv s := ⟨_, rfl⟩
      rw [← hP]
      refine loopE (fun f g (y : Nat × Mem) => f_X10_had_14 f (nI s) (nI y.1) (nI g) y.2) 10 (fun g y => y.1 = mskF P (fun g => g) g ∧ QM M1 y.2) (fun r => ∃ M', r = some (nI (mskF P (fun g => g) 10), M') ∧ QM M1 M') ?_ ?_ 10 0 (by omega) 100 (0, M1) (by omega) ⟨rfl, QM.rf⟩
      · rintro f g ⟨x, M2⟩ hg ⟨hx, Q2⟩
        simp only at hx Q2
        subst hx
        left
        obtain ⟨M3, e3, Q3⟩ := m_mayHave (Now_m N1 Q2) (HrdX_m X1 Q2) hs1 hg
        have e0 : mskF P (fun g => g) (g + 1) = if P g = true then mskF P (fun g => g) g ||| 2 ^ g else mskF P (fun g => g) g := by rw [mskF]
        refine ⟨(mskF P (fun g => g) (g + 1), M3), ?_, rfl, Q2.tr Q3⟩
        show f_X10_had_14 (f + 1) (nI s) (nI (mskF P (fun g => g) g)) (nI g) M2 = f_X10_had_14 f (nI s) (nI (mskF P (fun g => g) (g + 1))) (nI (g + 1)) M3
        rw [f_X10_had_14, if_neg (show ¬ (10 : Int32) ≤ nI g from fun q => absurd ((nI_leI (a := 10) (by decide) (by omega)).mp q) (by omega)), e3]
        simp only [Option.bind_some, if_b2]
        unfold f_X10_had_37
        simp only [lt_]
        rw [nI_add1, shl1 (by omega), nI_or, e0, show fitB n vo ra ki se go no he hn hs ht hv s g = P g from by rw [hP]]
        by_cases c : P g = true
        · rw [if_pos c, if_pos c]
        · rw [if_neg c, if_neg c, show nI (mskF P (fun g => g) g) ||| 0 = nI (mskF P (fun g => g) g ||| 0) from nI_or _ 0, Nat.or_zero]
      · rintro f ⟨x, M2⟩ ⟨hx, Q2⟩
        simp only at hx Q2
        subst hx
        refine ⟨M2, ?_, Q2⟩
        show f_X10_had_14 (f + 1) (nI s) (nI (mskF P (fun g => g) 10)) (nI 10) M2 = _
        rw [f_X10_had_14, if_pos (show (10 : Int32) ≤ nI 10 by decide)]
  · refine ⟨-1, M, M, by rw [if_neg h], ?_, hI⟩
    rw [m_isSinger hN.2.2.1.2.2.2 hn6]
    simp only [Option.bind_some, if_b2]
    rw [if_neg h]
