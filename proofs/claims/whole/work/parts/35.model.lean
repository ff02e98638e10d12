/-! the reference: its two levels -/
def mR (M : Mem) (n : Nat) (vo ra ki : Nat → Nat) : Prop := (∀ i, i < n → M.1 27 1 i = nI (vo i)) ∧ (∀ i, i < n → M.1 27 2 i = nI (ra i)) ∧ (∀ i, i < n → M.1 27 3 i = nI (ki i)) ∧ M.1 27 0 0 = nI n
def mS (M : Mem) (lv n : Nat) (se go no : Nat → Nat) (he ba : Nat) : Prop := (∀ i, i < n → M.1 27 4 (20 * lv + i) = nI (se i)) ∧ (∀ i, i < n → M.1 27 4 (20 * lv + 6 + i) = nI (go i)) ∧ (∀ i, i < n → M.1 27 4 (20 * lv + 12 + i) = nI (no i)) ∧ M.1 27 4 (20 * lv + 18) = nI he ∧ M.1 27 4 (20 * lv + 19) = nI ba
def okB (n : Nat) (se go no : Nat → Nat) (he : Nat) : Prop := (∀ i, i < n → se i < 8 ∧ go i < 100 ∧ no i < 10) ∧ he < 64
def mT (M : Mem) (th : Nat) : Prop := M.1 27 0 12 = nI th
theorem cmp_lt0 {x y : Int64} : (lg_cmp x y < 0) = (x < y) := by
  unfold lg_cmp
  apply propext
  by_cases h1 : y < x
  · have h2 : ¬ x < y := fun q => by
      have a := Int64.lt_iff_toInt_lt.mp q
      have b := Int64.lt_iff_toInt_lt.mp h1
      omega
    simp [h1, h2]
  · by_cases h3 : x = y
    · subst h3; simp [h1]
    · have h4 : x < y := by
        apply Int64.lt_iff_toInt_lt.mpr
        have a : ¬ y.toInt < x.toInt := fun q => h1 (Int64.lt_iff_toInt_lt.mpr q)
        have b : ¬ x.toInt = y.toInt := fun q => h3 (Int64.toInt_inj.mp q)
        omega
      simp [h1, h3, h4]
theorem cmp_gt0 {x y : Int64} : ((0 : Int32) < lg_cmp x y) = (y < x) := by
  unfold lg_cmp
  apply propext
  by_cases h1 : y < x
  · simp [h1]
  · by_cases h3 : x = y
    · subst h3; simp [h1]
    · simp [h1, h3]
theorem m_in {a b c : Int64} {M : Mem} : f_X10_in a b c M = some (b2 (decide (b.toInt ≤ a.toInt) && decide (a.toInt ≤ c.toInt))) := by
  unfold f_X10_in f_X10_in_17 f_X10_in_18
  simp only [cmp_lt0, cmp_gt0]
  have e1 : (a < b) ↔ a.toInt < b.toInt := Int64.lt_iff_toInt_lt
  have e2 : (c < a) ↔ c.toInt < a.toInt := Int64.lt_iff_toInt_lt
  by_cases h1 : a < b
  · have : ¬ b.toInt ≤ a.toInt := by have := e1.mp h1; omega
    rw [if_pos h1]; simp [this]; rfl
  · have g1 : b.toInt ≤ a.toInt := by have : ¬ a.toInt < b.toInt := fun q => h1 (e1.mpr q); omega
    rw [if_neg h1]
    by_cases h2 : c < a
    · have : ¬ a.toInt ≤ c.toInt := by have := e2.mp h2; omega
      rw [if_pos h2]; simp [this]; rfl
    · have g2 : a.toInt ≤ c.toInt := by have : ¬ c.toInt < a.toInt := fun q => h2 (e2.mpr q); omega
      rw [if_neg h2]; simp [g1, g2]; rfl
/-- is it a singer's number -/
def isS (n : Nat) (x : Int32) : Bool := decide (0 ≤ x.toInt ∧ x.toInt < n)
theorem isS_nI {n i : Nat} (hi : i < 2 ^ 31) : isS n (nI i) = decide (i < n) := by
  unfold isS
  rw [nI_toInt hi]
  by_cases h : i < n
  · simp [h]
  · simp [h]
theorem isS_true {n : Nat} (hn : n ≤ 6) {x : Int32} (h : isS n x = true) : ∃ i, i < n ∧ x = nI i := by
  unfold isS at h
  simp at h
  have h0 : ¬ x < 0 := fun q => by have := Int32.lt_iff_toInt_lt.mp q; have e : (0 : Int32).toInt = 0 := rfl; omega
  obtain ⟨j, hj, rfl⟩ := nI_of h0
  rw [nI_toInt hj] at h
  exact ⟨j, by omega, rfl⟩
theorem m_isSinger {M : Mem} {n : Nat} {x : Int32} (h : M.1 27 0 0 = nI n) (hn : n ≤ 6) : f_X10_isSinger x M = some (b2 (isS n x)) := by
  unfold f_X10_isSinger
  rw [m_in, h]
  simp only [Option.bind_some]
  have e1 : x.toInt64.toInt = x.toInt := Int32.toInt_toInt64 x
  have e2 : (nI n - 1).toInt64.toInt = (n : Int) - 1 := by
    rw [Int32.toInt_toInt64]
    exact pk_sub_toInt (a := n) (b := 1) (by omega) (by decide)
  have e3 : (0 : Int64).toInt = 0 := rfl
  rw [e1, e2, e3, if_pos (b2_01 _)]
  unfold isS
  congr 2
  by_cases h1 : 0 ≤ x.toInt
  · by_cases h2 : x.toInt < n
    · have : x.toInt ≤ n - 1 := by omega
      simp [h1, h2, this]
    · have : ¬ x.toInt ≤ n - 1 := by omega
      simp [h1, h2, this]
  · simp [h1]
theorem m_has {M : Mem} {m i : Nat} (hm : m < 2 ^ 31) (hi : i < 32) : f_X10_has (nI m) (nI i) M = some (b2 (m.testBit i)) := by
  unfold f_X10_has f_X10_has_14
  by_cases hb : m.testBit i = true
  · rw [if_pos ((bt_iff hm hi).mpr hb), hb]; rfl
  · rw [if_neg (fun q => hb ((bt_iff hm hi).mp q))]
    simp only [Bool.not_eq_true] at hb
    rw [hb]; rfl
theorem m_ones {M : Mem} {m : Nat} (hm : m < 2 ^ 31) : f_X10_ones (nI m) M = some (nI (pop m)) := by
  unfold f_X10_ones
  refine loopF (fun f i (x : Int32) => f_X10_ones_4 M f (nI m) x (nI i)) 10 (fun k => nI (popF m k)) _ ?_ ?_ 100 (by decide)
  · intro f i hi
    show f_X10_ones_4 M (f + 1) (nI m) _ (nI i) = f_X10_ones_4 M f (nI m) (nI (popF m i + m / 2 ^ i % 2)) (nI (i + 1))
    rw [f_X10_ones_4, if_neg (show ¬ (10 : Int32) ≤ nI i from fun q => absurd ((nI_leI (a := 10) (by decide) (by omega)).mp q) (by omega))]
    unfold lt_
    rw [bt_val hm (by omega), nI_add, nI_add1]
  · intro f
    show f_X10_ones_4 M (f + 1) (nI m) _ (nI 10) = _
    rw [f_X10_ones_4, if_pos (show (10 : Int32) ≤ nI 10 from by decide)]
    rfl
theorem ix20 {lv k : Nat} : (20 : Int32) * nI lv + nI k = nI (20 * lv + k) := by
  rw [show (20 : Int32) = nI 20 from rfl, pk_mul, nI_add]
theorem ix20c {lv : Nat} (c : Nat) {x : Int32} (hx : x = nI c) : (20 : Int32) * nI lv + x = nI (20 * lv + c) := by
  rw [hx, ix20]
theorem ix20b {lv k : Nat} (c : Nat) {x : Int32} (hx : x = nI c) : (20 : Int32) * nI lv + x + nI k = nI (20 * lv + c + k) := by
  rw [hx, ix20, nI_add]
theorem in33 {a b : Nat} (ha : a < 8) (hb : b < 8) : (decide ((-3 : Int64).toInt ≤ (nI a - nI b).toInt64.toInt) && decide ((nI a - nI b).toInt64.toInt ≤ (3 : Int64).toInt)) = (decide (b ≤ a + 3) && decide (a ≤ b + 3)) := by
  have : ∀ a, a < 8 → ∀ b, b < 8 → (decide ((-3 : Int64).toInt ≤ (nI a - nI b).toInt64.toInt) && decide ((nI a - nI b).toInt64.toInt ≤ (3 : Int64).toInt)) = (decide (b ≤ a + 3) && decide (a ≤ b + 3)) := by decide +kernel
  exact this a ha b hb
theorem m_seesOf {M : Mem} {lv n th s : Nat} {vo ra ki se go no : Nat → Nat} {he ba : Nat} (hR : mR M n vo ra ki) (hn : n ≤ 6) (h : mS M lv n se go no he ba) (hT : mT M th) (hth : th < 64) (hse : ∀ i, i < n → se i < 8) (hlv : lv ≤ 1) (hs : s < n) : f_X10_seesOf (nI lv) (nI s) M = some (nI (mskF (seesB n th se s) (fun i => i) n)) := by
  unfold f_X10_seesOf
  refine loopF (fun f i (x : Int32) => f_X10_seesOf_5 M f (nI lv) (nI s) x (nI i)) n (fun k => nI (mskF (seesB n th se s) (fun i => i) k)) _ ?_ ?_ 100 (by omega)
  · intro f i hi
    have step : ∀ a b, f_X10_seesOf_82 M (f_X10_seesOf_5 M f) (nI lv) (nI s) (nI i) a b = f_X10_seesOf_5 M f (nI lv) (nI s) (a ||| b) (nI (i + 1)) := fun a b => by
      unfold f_X10_seesOf_82 lt_
      rw [nI_add1]
    show f_X10_seesOf_5 M (f + 1) (nI lv) (nI s) _ (nI i) = f_X10_seesOf_5 M f (nI lv) (nI s) (nI (if seesB n th se s i = true then mskF (seesB n th se s) (fun i => i) i ||| 2 ^ i else mskF (seesB n th se s) (fun i => i) i)) (nI (i + 1))
    rw [f_X10_seesOf_5]
    unfold f_X10_seesOf_81
    simp only [step, lt_, hR.2.2.2]
    have or0 : ∀ a, nI a ||| (0 : Int32) = nI a := fun a => by rw [show (0 : Int32) = nI 0 from rfl, nI_or, Nat.or_zero]
    have k1 : (nI i = nI s) = (i = s) := eq_nI (by omega) (by omega)
    rw [if_neg (show ¬ nI n ≤ nI i from nI_ge hi (by omega)), ix20, ix20, if_gd (by omega) (by decide), if_gd (by omega) (by decide), tn_nI (by omega), tn_nI (by omega), h.1 i hi, h.1 s hs, hT, m_has (by omega) (by omega), m_in]
    simp only [Option.bind_some, if_b2, k1, in33 (hse i hi) (hse s hs), or0]
    rw [shl1 (by omega), nI_or]
    unfold seesB
    by_cases e : i = s
    · subst e; rw [if_pos rfl]; simp
    · rw [if_neg e]
      by_cases hb : th.testBit i = true
      · rw [if_pos hb]
        by_cases c1 : se s ≤ se i + 3
        · by_cases c2 : se i ≤ se s + 3
          · simp [e, hb, c1, c2, hi]
          · simp [e, hb, c1, c2, hi]
        · simp [e, hb, c1, hi]
      · rw [if_neg hb]; simp [hb]
  · intro f
    show f_X10_seesOf_5 M (f + 1) (nI lv) (nI s) _ (nI n) = _
    rw [f_X10_seesOf_5, hR.2.2.2, if_pos (nI_le (Nat.le_refl n) (by omega))]
theorem tb_msk {P : Nat → Bool} : ∀ (k o : Nat), (mskF P (fun i => i) k).testBit o = (decide (o < k) && P o) := by
  intro k
  induction k with
  | zero => intro o; simp [mskF]
  | succ k ih =>
    intro o
    unfold mskF
    by_cases hp : P k = true
    · rw [if_pos hp, Nat.testBit_or, ih, Nat.testBit_two_pow]
      by_cases e : k = o
      · subst e; simp [hp]
      · have : (o < k + 1) ↔ (o < k) := by omega
        simp [e, this]
    · rw [if_neg hp, ih]
      simp only [Bool.not_eq_true] at hp
      by_cases e : o = k
      · subst e; simp [hp]
      · have : (o < k + 1) ↔ (o < k) := by omega
        simp [this]
theorem m_kindNow {M : Mem} {lv n s : Nat} {vo ra ki se go no : Nat → Nat} {he ba : Nat} (hR : mR M n vo ra ki) (oR : okR n vo ra ki) (h : mS M lv n se go no he ba) (hhe : he < 64) (hlv : lv ≤ 1) (hs : s < n) : f_X10_kindNow (nI lv) (nI s) M = some (if he.testBit s = true then 1 else nI (ki s)) := by
  have hn := oR.1
  unfold f_X10_kindNow f_X10_kindNow_29 lt_
  dsimp only
  rw [ix20c (x := 18) 18 rfl, if_gd (by omega) (by decide), if_gd (by omega) (by decide), tn_nI (by omega), h.2.2.2.1, m_has (by omega) (by omega)]
  simp only [Option.bind_some, if_b2]
  rw [tn_nI (by omega), hR.2.2.1 s hs]
  split <;> rfl
theorem m_envLoop {M : Mem} {lv n th s pl : Nat} {vo ra ki se row : Nat → Nat} (hR : mR M n vo ra ki) (hn : n ≤ 6) (hs : s < n) (hpl : pl + 6 ≤ 40) (hr : ∀ i, i < n → M.1 27 4 (pl + i) = nI (row i)) (hrow : ∀ i, i < n → row i < 100) : f_X10_enviesOf_63 M 100 (nI pl) (nI (mskF (seesB n th se s) (fun i => i) n)) (-9) (nI (row s)) 0 = some (eI (envF row (seesB n th se s) s n).1) := by
  have hb : ∀ k, (envF row (seesB n th se s) s k).2 < 100 := by
    intro k
    induction k with
    | zero => exact hrow s hs
    | succ k ih =>
      unfold envF
      split
      · rename_i hc; simp at hc; exact hrow k (seesB_lt hc.1).1
      · exact ih
  have hmk : mskF (seesB n th se s) (fun i => i) n < 2 ^ 6 := mskF_lt (fun i hi _ => by omega)
  refine loopF (fun f i (x : Int32 × Int32) => f_X10_enviesOf_63 M f (nI pl) (nI (mskF (seesB n th se s) (fun i => i) n)) x.1 x.2 (nI i)) n (fun k => (eI (envF row (seesB n th se s) s k).1, nI (envF row (seesB n th se s) s k).2)) _ ?_ ?_ 100 (by omega)
  · intro f i hi
    have step : ∀ a b, f_X10_enviesOf_113 M (f_X10_enviesOf_63 M f) (nI pl) (nI (mskF (seesB n th se s) (fun i => i) n)) a b (nI i) = f_X10_enviesOf_63 M f (nI pl) (nI (mskF (seesB n th se s) (fun i => i) n)) a b (nI (i + 1)) := fun a b => by
      unfold f_X10_enviesOf_113 lt_
      rw [nI_add1]
    show f_X10_enviesOf_63 M (f + 1) (nI pl) _ _ _ (nI i) = _
    rw [f_X10_enviesOf_63]
    simp only [step, lt_, hR.2.2.2]
    rw [if_neg (show ¬ nI n ≤ nI i from nI_ge hi (by omega)), m_has (by omega) (by omega), tb_msk]
    simp only [Option.bind_some, if_b2, nI_add]
    simp only [if_gd (show pl + i < 40 by omega) (show 40 < 2 ^ 31 by decide)]
    rw [tn_nI (by omega), hr i hi]
    have e : envF row (seesB n th se s) s (i + 1) = if (seesB n th se s i && decide ((envF row (seesB n th se s) s i).2 < row i)) = true then (some i, row i) else envF row (seesB n th se s) s i := rfl
    have k1 : (nI (row i) ≤ nI (envF row (seesB n th se s) s i).2) = (row i ≤ (envF row (seesB n th se s) s i).2) := le_nI (by have := hrow i hi; omega) (by have := hb i; omega)
    simp only [k1, hi, decide_true, Bool.true_and]
    by_cases hc : seesB n th se s i = true
    · rw [if_pos hc]
      by_cases hd : (envF row (seesB n th se s) s i).2 < row i
      · rw [if_neg (by omega), e, hc]
        simp [hd]
        rfl
      · rw [if_pos (by omega), e, hc]
        simp [hd]
    · have e2 : envF row (seesB n th se s) s (i + 1) = envF row (seesB n th se s) s i := by
        rw [e]; simp only [Bool.not_eq_true] at hc; rw [hc]; simp
      rw [if_neg hc, e2]
  · intro f
    show f_X10_enviesOf_63 M (f + 1) (nI pl) _ _ _ (nI n) = _
    rw [f_X10_enviesOf_63, hR.2.2.2, if_pos (nI_le (Nat.le_refl n) (by omega))]
theorem m_enviesOf {M : Mem} {lv n th s : Nat} {vo ra ki se go no : Nat → Nat} {he ba : Nat} (hR : mR M n vo ra ki) (oR : okR n vo ra ki) (h : mS M lv n se go no he ba) (hT : mT M th) (hth : th < 64) (ok : okB n se go no he) (hlv : lv ≤ 1) (hs : s < n) : f_X10_enviesOf (nI lv) (nI s) M = some (eI (envy n th ki se go no he s)) := by
  have hn := oR.1
  unfold f_X10_enviesOf f_X10_enviesOf_19 f_X10_enviesOf_34 lt_
  rw [m_kindNow hR oR h ok.2 hlv hs, m_seesOf hR hn h hT hth (fun i hi => (ok.1 i hi).1) hlv hs]
  simp only [Option.bind_some, nI_add, ix20c 6 (show (6 : Int32) = nI 6 from rfl), ix20c 12 (show (12 : Int32) = nI 12 from rfl)]
  simp only [if_gd (show 20 * lv + 6 + s < 40 by omega) (show 40 < 2 ^ 31 by decide), if_gd (show 20 * lv + 12 + s < 40 by omega) (show 40 < 2 ^ 31 by decide)]
  rw [tn_nI (by omega), tn_nI (by omega), h.2.1 s hs, h.2.2.1 s hs]
  have st6 : ∀ row, envF row (seesB n th se s) s 6 = envF row (seesB n th se s) s n := fun row => by
    have := envF_stop (row := row) (seen := seesB n th se s) (s := s) (n := n) (fun o ho => seesB_n ho) (6 - n)
    rwa [show n + (6 - n) = 6 by omega] at this
  unfold envy isH
  have k0 : (nI (ki s) = 0) = (ki s = 0) := eq_nI (b := 0) (by have := (oR.2 s hs).2.2; omega) (by decide)
  have k3 : (nI (ki s) = 3) = (ki s = 3) := eq_nI (b := 3) (by have := (oR.2 s hs).2.2; omega) (by decide)
  by_cases hb : he.testBit s = true
  · rw [if_pos hb]
    simp [hb]
    rfl
  · simp only [if_neg hb, k0, k3]
    simp only [Bool.not_eq_true] at hb
    rw [hb]
    by_cases h2 : ki s = 0
    · rw [if_pos h2, if_pos h2, if_neg (by simp [h2]), if_pos h2, st6]
      exact m_envLoop (lv := lv) hR hn hs (by omega) h.2.1 (fun i hi => (ok.1 i hi).2.1)
    · rw [if_neg h2]
      by_cases h3 : ki s = 3
      · rw [if_pos h3, if_neg h2, if_neg (by simp [h3]), if_neg h2, if_pos h3, st6]
        exact m_envLoop (lv := lv) hR hn hs (by omega) h.2.2.1 (fun i hi => by have := (ok.1 i hi).2.2; omega)
      · rw [if_neg h3, if_neg h2, if_neg h3]
        split <;> rfl
