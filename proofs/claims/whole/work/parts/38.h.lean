theorem m_swapQ {M : Mem} {n a b : Nat} {vo ra ki se go no : Nat → Nat} {he ba : Nat} (h : mS M 1 n se go no he ba) (hR : mR M n vo ra ki) (hT : mT M 63) (hn : n ≤ 6) (ha : a < n) (hb : b < n) : ∃ M', f_X10_changeOn 1 (nI a) (nI b) M = some M' ∧ QM M M' ∧ mS M' 1 n (swF se a b) go no he ba ∧ mR M' n vo ra ki ∧ mT M' 63 := by
  obtain ⟨M', e, A, S, o⟩ := m_swap (lv := 1) h hn (by decide) ha hb
  exact ⟨M', e, QM.of4 A (fun k hk => o k (by omega)), S, mR_alk hR A (fun b _ e => by omega), mT_alk hT A (by omega)⟩
theorem c_swapQ {M : Mem} {n a b : Nat} {vo ra ki se go no : Nat → Nat} {he ba : Nat} (h : cS M 1 n (2 ^ n - 1) se go no he ba) (hR : cR M n vo ra ki) (hn : n ≤ 6) (ha : a < n) (hb : b < n) : ∃ M', f_X7_swapSeats 1 (nI a) (nI b) M = some M' ∧ Alk PC M M' ∧ cS M' 1 n (2 ^ n - 1) (swF se a b) go no he ba ∧ cR M' n vo ra ki := by
  obtain ⟨M', e, A, S⟩ := c_swap h hn ha hb
  have A' : Alk PC M M' := A.wk (fun a b e => Or.inl e.1)
  exact ⟨M', e, A', S, cR_alk hR A' (fun b e => by omega)⟩
theorem rich_lt {th : Nat} {no : Nat → Nat} : rich th no < 11 := by
  have : ∀ m k, popF m k ≤ k := fun m k => by
    induction k with
    | zero => simp [popF]
    | succ k ih => simp only [popF]; omega
  have := this (mskF (fun i => th.testBit i) no 6) 10
  unfold rich pop
  omega
def bsF (R : Nat → Nat → Nat) (n r0 : Nat) : Nat → Nat × Nat
  | 0 => (r0, 99)
  | k + 1 => if k / n < k % n ∧ (bsF R n r0 k).1 < R (k / n) (k % n) then (R (k / n) (k % n), 10 * (k / n) + k % n) else bsF R n r0 k
theorem dm {a b n : Nat} (hb : b < n) : (a * n + b) / n = a ∧ (a * n + b) % n = b := by
  have hn : 0 < n := by omega
  constructor
  · rw [Nat.mul_comm, Nat.mul_add_div hn, Nat.div_eq_of_lt hb, Nat.add_zero]
  · rw [Nat.mul_comm, Nat.mul_add_mod, Nat.mod_eq_of_lt hb]
theorem bsF_skip {R : Nat → Nat → Nat} {n r0 a : Nat} : ∀ j, j ≤ a + 1 → j ≤ n → bsF R n r0 (a * n + j) = bsF R n r0 (a * n) := by
  intro j
  induction j with
  | zero => intro _ _; rfl
  | succ j ih =>
    intro h1 h2
    have d := dm (a := a) (show j < n by omega)
    have e : bsF R n r0 (a * n + j + 1) = if (a * n + j) / n < (a * n + j) % n ∧ (bsF R n r0 (a * n + j)).1 < R ((a * n + j) / n) ((a * n + j) % n) then (R ((a * n + j) / n) ((a * n + j) % n), 10 * ((a * n + j) / n) + (a * n + j) % n) else bsF R n r0 (a * n + j) := rfl
    rw [← Nat.add_assoc, e, d.1, d.2, if_neg (by omega), ih (by omega) (by omega)]
theorem bsF_step {R : Nat → Nat → Nat} {n r0 a b : Nat} (hab : a < b) (hb : b < n) : bsF R n r0 (a * n + (b + 1)) = if (bsF R n r0 (a * n + b)).1 < R a b then (R a b, 10 * a + b) else bsF R n r0 (a * n + b) := by
  have d := dm (a := a) hb
  have e : bsF R n r0 (a * n + b + 1) = if (a * n + b) / n < (a * n + b) % n ∧ (bsF R n r0 (a * n + b)).1 < R ((a * n + b) / n) ((a * n + b) % n) then (R ((a * n + b) / n) ((a * n + b) % n), 10 * ((a * n + b) / n) + (a * n + b) % n) else bsF R n r0 (a * n + b) := rfl
  rw [← Nat.add_assoc, e, d.1, d.2]
  by_cases c : (bsF R n r0 (a * n + b)).1 < R a b
  · rw [if_pos ⟨hab, c⟩, if_pos c]
  · rw [if_neg (fun q => c q.2), if_neg c]
theorem bsF_lt {R : Nat → Nat → Nat} {n r0 : Nat} (h0 : r0 < 11) (hR : ∀ a b, R a b < 11) : ∀ k, (bsF R n r0 k).1 < 11 := by
  intro k
  induction k with
  | zero => exact h0
  | succ k ih =>
    unfold bsF
    split
    · exact hR _ _
    · exact ih
theorem op_best (v1 v2 : Int32) : Op (f_X9_best v1 v2) (f_X10_best v1 v2) := by
  intro M hI
  obtain ⟨⟨n, vo, ra, ki, se, go, no, he, ba, hN, -, -⟩, -, -, -⟩ := id hI
  obtain ⟨oR, hcR, hmR, ok, hcS, hmS, hTh⟩ := id hN
  have hn := oR.1
  unfold f_X9_best f_X9_best_19 f_X9_best_37 f_X10_best f_X10_best_22
  rw [show f_X9_isWithin v1 1 9 M = some (b2 (wi 1 9 v1)) from c_within, show f_X9_isWithin v2 0 1 M = some (b2 (wi 0 1 v2)) from c_within]
  simp only [Option.bind_some, if_b2, show ∀ M1, f_X10_in v1.toInt64 1 9 M1 = some (b2 (wi 1 9 v1)) from fun M1 => m_within, show ∀ M1, f_X10_in v2.toInt64 0 1 M1 = some (b2 (wi 0 1 v2)) from fun M1 => m_within]
  by_cases h1 : wi 1 9 v1 = true
  · by_cases h2 : wi 0 1 v2 = true
    · obtain ⟨m, rfl, -, hm⟩ := wi_true (lo := 1) (hi := 9) h1 (by decide)
      obtain ⟨w, rfl, -, hw⟩ := wi_true (lo := 0) (hi := 1) h2 (by decide)
      obtain ⟨r0, hr0⟩ : ∃ r0, r0 = rich (2 ^ n - 1) (itr n (2 ^ n - 1) vo ra ki se go no he m) := ⟨_, rfl⟩
      obtain ⟨R, hR⟩ : ∃ R : Nat → Nat → Nat, R = fun a b => rich (2 ^ n - 1) (itr n (2 ^ n - 1) vo ra ki (swF se a b) go no he m) := ⟨_, rfl⟩
      have hlt : ∀ k, (bsF R n r0 k).1 < 11 := bsF_lt (by rw [hr0]; exact rich_lt) (fun a b => by rw [hR]; exact rich_lt)
      have hRlt : ∀ a b, R a b < 11 := fun a b => by rw [hR]; exact rich_lt
      have kw : (nI w = 0) = (w = 0) := eq_nI (b := 0) (by omega) (by decide)
      have kw1 : (nI w = 1) = (w = 1) := eq_nI (b := 1) (by omega) (by decide)
      refine opQ hI (r := if w = 0 then nI (bsF R n r0 (n * n)).1 else nI (bsF R n r0 (n * n)).2) ?_ ?_
      · obtain ⟨M1, e1, A1, S1, N1⟩ := c_lay hN
        obtain ⟨M2, e2, A2, -, g2, -⟩ := c_run oR N1.2.1 S1 ok (show m ≤ 60 by omega)
        have inner : ∀ a, a < n → ∀ M3, Alk PC M M3 → ∀ k13 : Int32 → Int32 → Int32 → Int32 → Int32 → Mem → Option (Int32 × Mem), ∃ M', f_X2_richestChange_31 k13 100 (nI m) (nI w) (nI (bsF R n r0 (a * n)).1) (nI (bsF R n r0 (a * n)).2) (nI a) (nI (a + 1)) M3 = k13 (nI m) (nI w) (nI (bsF R n r0 ((a + 1) * n)).1) (nI (bsF R n r0 ((a + 1) * n)).2) (nI (a + 1)) M' ∧ Alk PC M M' := by
          intro a ha M3 A3 k13
          have hp := loopE (fun f b (x : (Nat × Nat) × Mem) => f_X2_richestChange_31 k13 f (nI m) (nI w) (nI x.1.1) (nI x.1.2) (nI a) (nI b) x.2) n (fun b x => a < b ∧ x.1 = bsF R n r0 (a * n + b) ∧ Alk PC M x.2) (fun r => ∃ M', r = k13 (nI m) (nI w) (nI (bsF R n r0 ((a + 1) * n)).1) (nI (bsF R n r0 ((a + 1) * n)).2) (nI (a + 1)) M' ∧ Alk PC M M') ?_ ?_ (n - (a + 1)) (a + 1) (by omega) 100 (bsF R n r0 (a * n), M3) (by omega) ⟨by omega, (bsF_skip (a + 1) (by omega) (by omega)).symm, A3⟩
          · exact hp
          · rintro f b ⟨st, M4⟩ hb ⟨hab, hst, A4⟩
            left
            have N4 := Now_c hN A4
            obtain ⟨M5, e5, A5, S5, N5⟩ := c_lay N4
            obtain ⟨M6, e6, A6, S6, R6⟩ := c_swapQ S5 N5.2.1 hn ha hb
            obtain ⟨M7, e7, A7, -, g7, -⟩ := c_run oR R6 S6 (okS_swap ok ha hb) (show m ≤ 60 by omega)
            have A47 := ((A4.tr A5).tr A6).tr A7
            refine ⟨(bsF R n r0 (a * n + (b + 1)), M7), ?_, by omega, rfl, A47⟩
            simp only at hst
            subst hst
            show f_X2_richestChange_31 k13 (f + 1) (nI m) (nI w) (nI (bsF R n r0 (a * n + b)).1) (nI (bsF R n r0 (a * n + b)).2) (nI a) (nI b) M4 = _
            rw [f_X2_richestChange_31, N4.2.1.2.2.2, if_neg (nI_ge hb (by omega)), e5]
            simp only [Option.bind_some]
            rw [e6]
            simp only [Option.bind_some]
            rw [e7]
            simp only [Option.bind_some]
            rw [g7]
            simp only [Option.bind_some, lt_, f_X2_richestChange_101, nI_add1]
            rw [show rich (2 ^ n - 1) (itr n (2 ^ n - 1) vo ra ki (swF se a b) go no he m) = R a b by rw [hR], show (10 : Int32) * nI a = nI (10 * a) from pk_mul 10 a, nI_add, bsF_step hab hb]
            have k1 : (nI (R a b) ≤ nI (bsF R n r0 (a * n + b)).1) = (R a b ≤ (bsF R n r0 (a * n + b)).1) := le_nI (by have := hRlt a b; omega) (by have := hlt (a * n + b); omega)
            simp only [k1]
            by_cases c : (bsF R n r0 (a * n + b)).1 < R a b
            · rw [if_neg (by omega), if_pos c]
            · rw [if_pos (by omega), if_neg c]
          · rintro f ⟨st, M4⟩ ⟨hab, hst, A4⟩
            refine ⟨M4, ?_, A4⟩
            simp only at hst
            subst hst
            show f_X2_richestChange_31 k13 (f + 1) (nI m) (nI w) (nI (bsF R n r0 (a * n + n)).1) (nI (bsF R n r0 (a * n + n)).2) (nI a) (nI n) M4 = _
            rw [f_X2_richestChange_31, (Now_c hN A4).2.1.2.2.2, if_pos (nI_le (Nat.le_refl n) (by omega))]
            simp only [lt_, nI_add1]
            rw [show (a + 1) * n = a * n + n by rw [Nat.add_mul, Nat.one_mul]]
        have outer : ∃ M', f_X2_richestChange_13 100 (nI m) (nI w) (nI r0) 99 0 M2 = some ((if w = 0 then nI (bsF R n r0 (n * n)).1 else nI (bsF R n r0 (n * n)).2), M') ∧ Alk PC M M' := by
          have := loopE (fun f a (x : (Nat × Nat) × Mem) => f_X2_richestChange_13 f (nI m) (nI w) (nI x.1.1) (nI x.1.2) (nI a) x.2) n (fun a x => x.1 = bsF R n r0 (a * n) ∧ Alk PC M x.2) (fun r => ∃ M', r = some ((if w = 0 then nI (bsF R n r0 (n * n)).1 else nI (bsF R n r0 (n * n)).2), M') ∧ Alk PC M M') ?_ ?_ n 0 (by omega) 100 ((r0, 99), M2) (by omega) ⟨by rw [Nat.zero_mul]; rfl, A1.tr A2⟩
          · exact this
          · rintro f a ⟨st, M4⟩ ha ⟨hst, A4⟩
            left
            simp only at hst
            subst hst
            obtain ⟨M5, e5, A5⟩ := inner a ha M4 A4 (f_X2_richestChange_13 f)
            refine ⟨(bsF R n r0 ((a + 1) * n), M5), ?_, rfl, A5⟩
            show f_X2_richestChange_13 (f + 1) (nI m) (nI w) (nI (bsF R n r0 (a * n)).1) (nI (bsF R n r0 (a * n)).2) (nI a) M4 = _
            rw [f_X2_richestChange_13, (Now_c hN A4).2.1.2.2.2, if_neg (nI_ge ha (by omega))]
            simp only [lt_, nI_add1]
            exact e5
          · rintro f ⟨st, M4⟩ ⟨hst, A4⟩
            simp only at hst
            subst hst
            refine ⟨M4, ?_, A4⟩
            show f_X2_richestChange_13 (f + 1) (nI m) (nI w) (nI (bsF R n r0 (n * n)).1) (nI (bsF R n r0 (n * n)).2) (nI n) M4 = _
            rw [f_X2_richestChange_13, (Now_c hN A4).2.1.2.2.2, if_pos (nI_le (Nat.le_refl n) (by omega))]
            unfold f_X2_richestChange_123
            simp only [kw]
            split <;> rfl
        obtain ⟨M', e', A'⟩ := outer
        refine ⟨M', ?_, A'⟩
        rw [if_pos h1, if_pos h2]
        have e0 : f_X2_richestChange (nI m) (nI w) M = some ((if w = 0 then nI (bsF R n r0 (n * n)).1 else nI (bsF R n r0 (n * n)).2), M') := by
          unfold f_X2_richestChange f_X2_richnessBehind
          rw [e1]
          simp only [Option.bind_some]
          rw [e2]
          simp only [Option.bind_some]
          rw [g2]
          simp only [Option.bind_some]
          rw [← hr0]
          exact e'
        simp only [kw1]
        rcases (show w = 0 ∨ w = 1 by omega) with rfl | rfl
        · rw [if_neg (by decide), show (0 : Int32) = nI 0 from rfl, e0]; rfl
        · rw [if_pos rfl, show (1 : Int32) = nI 1 from rfl, e0]; rfl
      · intro M1 A1
        have N1 := Now_c hN A1
        obtain ⟨M2, e2, Q2, S2, R2, T2⟩ := m_layQ N1
        obtain ⟨M3, e3, Q3, -, g3⟩ := m_run oR R2 S2 T2 (okS_B ok) (show m ≤ 60 by omega)
        have Q13 := Q2.tr Q3
        have eb : f_X10_notesBy 0 0 (nI m) M1 = some (nI r0, M3) := by
          unfold f_X10_notesBy f_X10_notesBy_16
          rw [e2]
          simp only [Option.bind_some]
          rw [if_pos trivial, e3]
          simp only [Option.bind_some]
          rw [g3, ← hr0]
        have loop : ∃ M', f_X10_best_40 100 (nI m) (nI w) (nI r0) 99 0 M3 = some ((if w = 0 then nI (bsF R n r0 (n * n)).1 else nI (bsF R n r0 (n * n)).2), M') ∧ QM M1 M' := by
          have nn : n * n ≤ 36 := Nat.mul_le_mul hn hn
          have := loopE (fun f k (x : (Nat × Nat) × Mem) => f_X10_best_40 f (nI m) (nI w) (nI x.1.1) (nI x.1.2) (nI k) x.2) (n * n) (fun k x => x.1 = bsF R n r0 k ∧ QM M1 x.2) (fun r => ∃ M', r = some ((if w = 0 then nI (bsF R n r0 (n * n)).1 else nI (bsF R n r0 (n * n)).2), M') ∧ QM M1 M') ?_ ?_ (n * n) 0 (by omega) 100 ((r0, 99), M3) (by omega) ⟨rfl, Q13⟩
          · exact this
          · rintro f k ⟨st, M4⟩ hk ⟨hst, Q4⟩
            left
            simp only at hst
            subst hst
            have N4 := Now_m N1 Q4
            have n0 : 0 < n := by
              rcases Nat.eq_zero_or_pos n with e | e
              · subst e; omega
              · exact e
            have ha : k / n < n := (Nat.div_lt_iff_lt_mul n0).mpr hk
            have hb : k % n < n := Nat.mod_lt k n0
            have ez : ¬ nI n = 0 := nI_ne0 n0 (by omega)
            have ed : nI k / nI n = nI (k / n) := pk_div (by omega) n0 (by omega)
            have er : nI k - nI k / nI n * nI n = nI (k % n) := pk_rem (by omega) n0 (by omega)
            have e : bsF R n r0 (k + 1) = if k / n < k % n ∧ (bsF R n r0 k).1 < R (k / n) (k % n) then (R (k / n) (k % n), 10 * (k / n) + k % n) else bsF R n r0 k := rfl
            have step : ∀ (mn : Int32) (M5 : Mem), f_X10_best_93 (f_X10_best_40 f) (nI m) (nI w) (nI (bsF R n r0 k).1) (nI (bsF R n r0 k).2) (nI k) (nI (k / n)) (nI (k % n)) mn M5 = if mn ≤ nI (bsF R n r0 k).1 then f_X10_best_40 f (nI m) (nI w) (nI (bsF R n r0 k).1) (nI (bsF R n r0 k).2) (nI (k + 1)) M5 else f_X10_best_40 f (nI m) (nI w) mn (nI (10 * (k / n) + k % n)) (nI (k + 1)) M5 := by
              intro mn M5
              unfold f_X10_best_93 f_X10_best_114 f_X10_best_128
              simp only [lt_, nI_add1]
              rw [show (10 : Int32) * nI (k / n) = nI (10 * (k / n)) from pk_mul 10 (k / n), nI_add]
              by_cases c : mn ≤ nI (bsF R n r0 k).1
              · rw [if_pos c, if_pos c, if_pos c]
              · rw [if_neg c, if_neg c, if_neg c]
            show ∃ s', f_X10_best_40 (f + 1) (nI m) (nI w) (nI (bsF R n r0 k).1) (nI (bsF R n r0 k).2) (nI k) M4 = _ ∧ _
            rw [f_X10_best_40, N4.2.2.1.2.2.2, pk_mul, if_neg (nI_ge hk (by omega)), if_pos ez]
            rw [ed] at er
            simp only [lt_, if_pos ez, ed, er]
            have k2 : (nI (k % n) ≤ nI (k / n)) = (k % n ≤ k / n) := le_nI (by omega) (by omega)
            simp only [k2]
            by_cases c1 : k / n < k % n
            · obtain ⟨M5, e5, Q5, S5, R5, T5⟩ := m_layQ N4
              obtain ⟨M6, e6, Q6, S6, R6, T6⟩ := m_swapQ S5 R5 T5 hn ha hb
              obtain ⟨M7, e7, Q7, -, g7⟩ := m_run oR R6 S6 T6 (okS_B (okS_swap ok ha hb)) (show m ≤ 60 by omega)
              have ky : f_X10_notesBy (nI (k / n)) (nI (k % n)) (nI m) M4 = some (nI (R (k / n) (k % n)), M7) := by
                unfold f_X10_notesBy f_X10_notesBy_16
                rw [e5]
                simp only [Option.bind_some]
                rw [if_neg (fun q => absurd ((nI_eq (by omega) (by omega)).mp q) (by omega)), e6]
                simp only [Option.bind_some]
                rw [e7]
                simp only [Option.bind_some]
                rw [g7, hR]
              rw [if_neg (by omega), ky]
              simp only [Option.bind_some, step]
              have k3 : (nI (R (k / n) (k % n)) ≤ nI (bsF R n r0 k).1) = (R (k / n) (k % n) ≤ (bsF R n r0 k).1) := le_nI (by have := hRlt (k / n) (k % n); omega) (by have := hlt k; omega)
              simp only [k3]
              refine ⟨(bsF R n r0 (k + 1), M7), ?_, rfl, ((Q4.tr Q5).tr Q6).tr Q7⟩
              rw [e]
              by_cases c : (bsF R n r0 k).1 < R (k / n) (k % n)
              · rw [if_neg (by omega), if_pos ⟨c1, c⟩]
              · rw [if_pos (by omega), if_neg (fun q => c q.2)]
            · rw [if_pos (by omega), step, if_pos (show (-9 : Int32) ≤ nI (bsF R n r0 k).1 from by
                have : ∀ j, j < 11 → (-9 : Int32) ≤ nI j := by decide +kernel
                exact this _ (hlt k))]
              refine ⟨(bsF R n r0 (k + 1), M4), ?_, rfl, Q4⟩
              rw [e, if_neg (fun q => c1 q.1)]
          · rintro f ⟨st, M4⟩ ⟨hst, Q4⟩
            simp only at hst
            subst hst
            refine ⟨M4, ?_, Q4⟩
            show f_X10_best_40 (f + 1) (nI m) (nI w) (nI (bsF R n r0 (n * n)).1) (nI (bsF R n r0 (n * n)).2) (nI (n * n)) M4 = _
            rw [f_X10_best_40, (Now_m N1 Q4).2.2.1.2.2.2, pk_mul, if_pos (nI_le (Nat.le_refl (n * n)) (by omega))]
            unfold f_X10_best_145
            simp only [kw]
            split <;> rfl
        obtain ⟨M', e', Q'⟩ := loop
        refine ⟨M', ?_, Q'⟩
        rw [if_pos h1, if_pos h2, eb]
        exact e'
    · exact ⟨-2, M, M, by rw [if_pos h1, if_neg h2], by rw [if_pos h1, if_neg h2], hI⟩
  · exact ⟨-2, M, M, by rw [if_neg h1], by rw [if_neg h1], hI⟩
