/-! hoarse ones -/
theorem c_power {M : Mem} {b k : Nat} (hk : k ≤ 6) : f_X9_power (nI b) (nI k) M = some (nI (b ^ k)) := by
  unfold f_X9_power
  refine loopF (fun f i (x : Int32) => f_X9_power_4 M f (nI b) (nI k) x (nI i)) k (fun i => nI (b ^ i)) _ ?_ ?_ 100 (by omega)
  · intro f i hi
    show f_X9_power_4 M (f + 1) (nI b) (nI k) (nI (b ^ i)) (nI i) = _
    rw [f_X9_power_4, if_neg (nI_ge hi (by omega)), lt_, lt_, pk_mul, nI_add1, ← Nat.pow_succ]
  · intro f
    show f_X9_power_4 M (f + 1) (nI b) (nI k) (nI (b ^ k)) (nI k) = _
    rw [f_X9_power_4, if_pos (nI_le (Nat.le_refl k) (by omega))]
theorem m_power {M : Mem} {b k : Nat} (hk : k ≤ 6) : f_X10_power (nI b) (nI k) M = some (nI (b ^ k)) := by
  unfold f_X10_power
  refine loopF (fun f i (x : Int32) => f_X10_power_4 M f (nI b) (nI k) x (nI i)) k (fun i => nI (b ^ i)) _ ?_ ?_ 100 (by omega)
  · intro f i hi
    show f_X10_power_4 M (f + 1) (nI b) (nI k) (nI (b ^ i)) (nI i) = _
    rw [f_X10_power_4, if_neg (nI_ge hi (by omega)), lt_, lt_, pk_mul, nI_add1, ← Nat.pow_succ]
  · intro f
    show f_X10_power_4 M (f + 1) (nI b) (nI k) (nI (b ^ k)) (nI k) = _
    rw [f_X10_power_4, if_pos (nI_le (Nat.le_refl k) (by omega))]
def wt (n c T : Nat) : Nat := c ^ (n - pop T) * (10 - c) ^ pop T
def hoT (n c : Nat) : Nat → Nat
  | 0 => 0
  | k + 1 => hoT n c k + wt n c k
def hoG (n c : Nat) (r : Nat → Nat) : Nat → Nat
  | 0 => 0
  | k + 1 => hoG n c r k + if r k ≤ 1 then wt n c k else 0
theorem hoT_all : ∀ n, n < 7 → ∀ c, c < 11 → hoT n c (2 ^ n) = 10 ^ n := by decide +kernel
theorem wt_le : ∀ n, n < 7 → ∀ c, c < 11 → ∀ T, T < 2 ^ n → wt n c T ≤ 1000000 := by decide +kernel
theorem hoG_le {n c : Nat} {r : Nat → Nat} (hn : n < 7) (hc : c < 11) : ∀ k, k ≤ 2 ^ n → hoG n c r k ≤ k * 1000000 := by
  intro k
  induction k with
  | zero => intro _; simp [hoG]
  | succ k ih =>
    intro hk
    have h0 := ih (by omega)
    have h1 := wt_le n hn c hc k (by omega)
    simp only [hoG]
    rw [Nat.succ_mul]
    split
    · exact Nat.add_le_add h0 h1
    · exact Nat.add_le_add h0 (Nat.zero_le _)
theorem ten_pow : ∀ n, n < 7 → 0 < 10 ^ n ∧ 10 ^ n < 2 ^ 20 := by decide +kernel
theorem c_hoarse {M : Mem} {n m c : Nat} {v : Int32} {vo ra ki se go no : Nat → Nat} {he ba : Nat} (hN : Now M n vo ra ki se go no he ba) (hm : m ≤ 9) (hc : c ≤ 10) : ∃ M', f_X1_chanceOfOneNote (nI m) (nI c) v M = some (frac (hoG n c (rsF n vo ra ki se go no he m) (2 ^ n)) (10 ^ n) (nI (hoG n c (rsF n vo ra ki se go no he m) (2 ^ n))) v, M') ∧ Alk PC M M' := by
  obtain ⟨oR, hcR, hmR, ok, hcS, hmS, hTh⟩ := id hN
  have hn := oR.1
  have h64 := two6 hn
  obtain ⟨r, hr⟩ : ∃ r, r = rsF n vo ra ki se go no he m := ⟨_, rfl⟩
  rw [← hr]
  have gl := hoG_le (r := r) (show n < 7 by omega) (show c < 11 by omega) (2 ^ n) (Nat.le_refl _)
  unfold f_X1_chanceOfOneNote
  rw [c_every hcR.2.2.2 hn]
  simp only [Option.bind_some]
  refine loopE (fun f T (y : Nat × Mem) => f_X1_chanceOfOneNote_15 f (nI m) (nI c) v (nI (2 ^ n - 1)) (nI y.1) (nI T) y.2) (2 ^ n) (fun T y => y.1 = hoG n c r T ∧ Alk PC M y.2) (fun x => ∃ M', x = some (frac (hoG n c r (2 ^ n)) (10 ^ n) (nI (hoG n c r (2 ^ n))) v, M') ∧ Alk PC M M') ?_ ?_ (2 ^ n) 0 (by omega) 100 (0, M) (by omega) ⟨rfl, Alk.rf⟩
  · rintro f T ⟨x, M1⟩ hT ⟨hx1, A1⟩
    simp only at hx1 A1
    subst hx1
    left
    have N1 := Now_c hN A1
    have hn3 := N1.2.1.2.2.2
    have p4 := F1b n (by omega) T hT
    have wl := wt_le n (by omega) c (by omega) T hT
    obtain ⟨M2, e2, A2⟩ := c_some (m := m) N1 hT (by omega)
    rw [← hr] at e2
    have step : ∀ (x : Int32) (M5 : Mem), f_X1_chanceOfOneNote_78 (f_X1_chanceOfOneNote_15 f) (nI m) (nI c) v (nI (2 ^ n - 1)) x (nI T) M5 = f_X1_chanceOfOneNote_15 f (nI m) (nI c) v (nI (2 ^ n - 1)) x (nI (T + 1)) M5 := fun x M5 => by
      unfold f_X1_chanceOfOneNote_78
      rw [lt_, nI_add1]
    have top : f_X1_chanceOfOneNote_15 (f + 1) (nI m) (nI c) v (nI (2 ^ n - 1)) (nI (hoG n c r T)) (nI T) M1 = if wt n c T = 0 then f_X1_chanceOfOneNote_15 f (nI m) (nI c) v (nI (2 ^ n - 1)) (nI (hoG n c r T)) (nI (T + 1)) M1 else if r T ≤ 1 then f_X1_chanceOfOneNote_15 f (nI m) (nI c) v (nI (2 ^ n - 1)) (nI (hoG n c r T + wt n c T)) (nI (T + 1)) M2 else f_X1_chanceOfOneNote_15 f (nI m) (nI c) v (nI (2 ^ n - 1)) (nI (hoG n c r T)) (nI (T + 1)) M2 := by
      rw [f_X1_chanceOfOneNote_15, if_neg (nI_nlt (by omega) (by omega)), c_bitCount (by omega)]
      simp only [Option.bind_some]
      rw [hn3, pk_sub p4, c_power (by omega), show (10 : Int32) - nI c = nI (10 - c) from pk_sub (a := 10) (by omega)]
      simp only [Option.bind_some]
      rw [c_power (by omega)]
      simp only [Option.bind_some]
      rw [lt_, pk_mul, show c ^ (n - pop T) * (10 - c) ^ pop T = wt n c T from rfl]
      have k1 : (nI (wt n c T) ≤ 0) = (wt n c T = 0) := by
        rw [show (nI (wt n c T) ≤ 0) = (wt n c T ≤ 0) from le_nI (b := 0) (by omega) (by decide)]
        exact propext ⟨fun q => by omega, fun q => by omega⟩
      simp only [k1, step]
      rw [e2]
      simp only [Option.bind_some, lt_]
      have k2 : ((1 : Int32) < nI (r T)) = (1 < r T) := lt_nI (a := 1) (by decide) (by rw [hr]; have := rs_lt (n := n) (m := m) (T := T) (vo := vo) (ra := ra) (ki := ki) (se := se) (go := go) (no := no) (he := he); omega)
      simp only [k2, nI_add]
      by_cases c0 : wt n c T = 0
      · rw [if_pos c0, if_pos c0]
      · rw [if_neg c0, if_neg c0]
        by_cases c1 : r T ≤ 1
        · rw [if_neg (by omega), if_pos c1]
        · rw [if_pos (by omega), if_neg c1]
    have e0 : hoG n c r (T + 1) = hoG n c r T + if r T ≤ 1 then wt n c T else 0 := by rw [hoG]
    by_cases c0 : wt n c T = 0
    · refine ⟨(hoG n c r (T + 1), M1), ?_, rfl, A1⟩
      show f_X1_chanceOfOneNote_15 (f + 1) (nI m) (nI c) v (nI (2 ^ n - 1)) (nI (hoG n c r T)) (nI T) M1 = f_X1_chanceOfOneNote_15 f (nI m) (nI c) v (nI (2 ^ n - 1)) (nI (hoG n c r (T + 1))) (nI (T + 1)) M1
      rw [top, if_pos c0, e0, c0, show (if r T ≤ 1 then 0 else 0) = 0 from by split <;> rfl]; rfl
    · refine ⟨(hoG n c r (T + 1), M2), ?_, rfl, A1.tr (A2.wk (fun a b e => Or.inl e))⟩
      show f_X1_chanceOfOneNote_15 (f + 1) (nI m) (nI c) v (nI (2 ^ n - 1)) (nI (hoG n c r T)) (nI T) M1 = f_X1_chanceOfOneNote_15 f (nI m) (nI c) v (nI (2 ^ n - 1)) (nI (hoG n c r (T + 1))) (nI (T + 1)) M2
      rw [top, if_neg c0, e0]
      by_cases c1 : r T ≤ 1
      · rw [if_pos c1, if_pos c1]
      · rw [if_neg c1, if_neg c1]; rfl
  · rintro f ⟨x, M1⟩ ⟨hx1, A1⟩
    simp only at hx1 A1
    subst hx1
    refine ⟨M1, ?_, A1⟩
    have hn3 := (Now_c hN A1).2.1.2.2.2
    show f_X1_chanceOfOneNote_15 (f + 1) (nI m) (nI c) v (nI (2 ^ n - 1)) (nI (hoG n c r (2 ^ n))) (nI (2 ^ n)) M1 = _
    rw [f_X1_chanceOfOneNote_15, if_pos (nI_lt (full_lt n) (by omega)), hn3, show f_X9_power 10 (nI n) M1 = _ from c_power (b := 10) hn]
    simp only [Option.bind_some]
    rw [c_side (d := hoG n c r (2 ^ n)) (by rw [if_pos (nI_pos' (by omega))]) (by omega) (ten_pow n (by omega)).1 (ten_pow n (by omega)).2]
    rfl
theorem m_hoarse {M : Mem} {n m c : Nat} {v : Int32} {vo ra ki se go no : Nat → Nat} {he ba : Nat} (hN : Now M n vo ra ki se go no he ba) (hm : m ≤ 9) (hc : c ≤ 10) : ∃ M', f_X10_hoarse_36 100 (nI m) (nI c) v 0 0 0 M = some (frac (hoG n c (rsF n vo ra ki se go no he m) (2 ^ n)) (10 ^ n) (nI (hoG n c (rsF n vo ra ki se go no he m) (2 ^ n))) v, M') ∧ QM M M' := by
  have hn := hN.1.1
  have h64 := two6 hn
  obtain ⟨r, hr⟩ : ∃ r, r = rsF n vo ra ki se go no he m := ⟨_, rfl⟩
  rw [← hr]
  have gl := hoG_le (r := r) (show n < 7 by omega) (show c < 11 by omega) (2 ^ n) (Nat.le_refl _)
  refine loopE (fun f T (y : Mem) => f_X10_hoarse_36 f (nI m) (nI c) v (nI (hoG n c r T)) (nI (hoT n c T)) (nI T) y) (2 ^ n) (fun T y => QM M y) (fun x => ∃ M', x = some (frac (hoG n c r (2 ^ n)) (10 ^ n) (nI (hoG n c r (2 ^ n))) v, M') ∧ QM M M') ?_ ?_ (2 ^ n) 0 (by omega) 100 M (by omega) QM.rf
  · rintro f T M1 hT Q1
    left
    have N1 := Now_m hN Q1
    have hn0 := N1.2.2.1.2.2.2
    have p4 := F1b n (by omega) T hT
    obtain ⟨M2, e2, Q2⟩ := m_some (m := m) N1 hT (by omega)
    rw [← hr] at e2
    refine ⟨M2, ?_, Q1.tr Q2⟩
    have e0 : hoG n c r (T + 1) = hoG n c r T + if r T ≤ 1 then wt n c T else 0 := by rw [hoG]
    have e1 : hoT n c (T + 1) = hoT n c T + wt n c T := by rw [hoT]
    show f_X10_hoarse_36 (f + 1) (nI m) (nI c) v (nI (hoG n c r T)) (nI (hoT n c T)) (nI T) M1 = f_X10_hoarse_36 f (nI m) (nI c) v (nI (hoG n c r (T + 1))) (nI (hoT n c (T + 1))) (nI (T + 1)) M2
    rw [f_X10_hoarse_36, hn0, shl1 (by omega), if_neg (nI_ge hT (by omega)), m_ones (by omega)]
    simp only [Option.bind_some]
    rw [pk_sub p4, show (10 : Int32) - nI c = nI (10 - c) from pk_sub (a := 10) (by omega), m_power (by omega)]
    simp only [Option.bind_some]
    rw [m_power (by omega)]
    simp only [Option.bind_some]
    rw [lt_, lt_, pk_mul, Nat.mul_comm, show c ^ (n - pop T) * (10 - c) ^ pop T = wt n c T from rfl, nI_add, e2]
    simp only [Option.bind_some]
    have k2 : ((2 : Int32) ≤ nI (r T)) = (2 ≤ r T) := le_nI (a := 2) (by decide) (by rw [hr]; have := rs_lt (n := n) (m := m) (T := T) (vo := vo) (ra := ra) (ki := ki) (se := se) (go := go) (no := no) (he := he); omega)
    simp only [k2]
    unfold f_X10_hoarse_102
    rw [e0, e1]
    by_cases c1 : r T ≤ 1
    · rw [if_neg (by omega), if_pos c1, lt_, lt_, nI_add, nI_add1]
    · rw [if_pos (by omega), if_neg c1, lt_, lt_, show nI (hoG n c r T) + 0 = nI (hoG n c r T + 0) from nI_add _ 0, nI_add1]
  · rintro f M1 Q1
    have hn0 := (Now_m hN Q1).2.2.1.2.2.2
    refine ⟨M1, ?_, Q1⟩
    show f_X10_hoarse_36 (f + 1) (nI m) (nI c) v (nI (hoG n c r (2 ^ n))) (nI (hoT n c (2 ^ n))) (nI (2 ^ n)) M1 = _
    have g := gcd_pos (d := hoG n c r (2 ^ n)) (ten_pow n (by omega)).1 (by have := (ten_pow n (by omega)).2; omega)
    rw [f_X10_hoarse_36, hn0, shl1 (by omega), if_pos (nI_le (Nat.le_refl _) (by omega)), hoT_all n (by omega) c (by omega), m_common (d := hoG n c r (2 ^ n)) (by rw [if_pos (nI_pos' (by omega))]) (by omega) (ten_pow n (by omega)).2]
    simp only [Option.bind_some, if_pos g]
    unfold f_X10_hoarse_137 frac
    split <;> rfl
theorem op_hoarse (v1 v2 v3 : Int32) : Op (f_X9_hoarse v1 v2 v3) (f_X10_hoarse v1 v2 v3) := by
  intro M hI
  obtain ⟨⟨n, vo, ra, ki, se, go, no, he, ba, hN, -, -⟩, -, -, -⟩ := id hI
  unfold f_X9_hoarse f_X10_hoarse f_X9_hoarse_20 f_X10_hoarse_24
  simp only [c_within, Option.bind_some, if_b2]
  rw [show f_X10_in v1.toInt64 0 9 = fun M => some (b2 (wi 0 9 v1)) from funext fun M => m_within, show f_X10_in v2.toInt64 0 10 = fun M => some (b2 (wi 0 10 v2)) from funext fun M => m_within]
  simp only [Option.bind_some, if_b2]
  rw [show (0 : Int32).toInt = 0 from rfl, show (9 : Int32).toInt = 9 from rfl, show (10 : Int32).toInt = 10 from rfl]
  by_cases h : wi 0 9 v1 = true
  case neg => exact ⟨-2, M, M, by rw [if_neg h], by rw [if_neg h], hI⟩
  by_cases h2 : wi 0 10 v2 = true
  case neg => exact ⟨-2, M, M, by rw [if_pos h, if_neg h2], by rw [if_pos h, if_neg h2], hI⟩
  obtain ⟨m, rfl, -, hm⟩ := wi_true (lo := 0) (hi := 9) h (by decide)
  obtain ⟨c, rfl, -, hc⟩ := wi_true (lo := 0) (hi := 10) h2 (by decide)
  refine opQ hI (r := frac (hoG n c (rsF n vo ra ki se go no he m) (2 ^ n)) (10 ^ n) (nI (hoG n c (rsF n vo ra ki se go no he m) (2 ^ n))) v3) ?_ ?_
  · obtain ⟨M', e', A'⟩ := c_hoarse (v := v3) hN hm hc
    refine ⟨M', ?_, A'⟩
    rw [if_pos h, if_pos h2, e']
    rfl
  · intro M1 A1
    obtain ⟨M', e', Q'⟩ := m_hoarse (v := v3) (Now_c hN A1) hm hc
    refine ⟨M', ?_, Q'⟩
    rw [if_pos h, if_pos h2]
    exact e'
