/-! the class: a stand o -/
def cR (M : Mem) (n : Nat) (vo ra ki : Nat → Nat) : Prop := (∀ i, i < n → M.1 19 1 i = nI (vo i)) ∧ (∀ i, i < n → M.1 19 2 i = nI (ra i)) ∧ (∀ i, i < n → M.1 19 3 i = nI (ki i)) ∧ M.1 19 0 3 = nI n
def cS (M : Mem) (o n th : Nat) (se go no : Nat → Nat) (he ba : Nat) : Prop := (∀ i, i < n → M.1 o 1 i = nI (se i)) ∧ (∀ i, i < n → M.1 o 2 i = nI (go i)) ∧ (∀ i, i < n → M.1 o 3 i = nI (no i)) ∧ M.1 o 0 5 = nI th ∧ M.1 o 0 6 = nI he ∧ M.1 o 0 7 = nI ba
def okR (n : Nat) (vo ra ki : Nat → Nat) : Prop := n ≤ 6 ∧ ∀ i, i < n → vo i < 10 ∧ ra i < 10 ∧ ki i < 4
def okS (n th : Nat) (se go no : Nat → Nat) (he : Nat) : Prop := th < 2 ^ n ∧ (∀ i, i < n → se i < 8 ∧ go i < 100 ∧ no i < 10) ∧ he < 64
theorem two6 {n : Nat} (h : n ≤ 6) : 2 ^ n ≤ 64 := Nat.pow_le_pow_right (by decide) h
theorem tb_lt {th n i : Nat} (h : th < 2 ^ n) (hb : th.testBit i = true) : i < n := by
  rcases Nat.lt_or_ge i n with h1 | h1
  · exact h1
  · rw [Nat.testBit_lt_two_pow (Nat.lt_of_lt_of_le h (Nat.pow_le_pow_right (by decide) h1))] at hb
    cases hb
theorem tb_ge {th n i : Nat} (h : th < 2 ^ n) (hi : n ≤ i) : th.testBit i = false := Nat.testBit_lt_two_pow (Nat.lt_of_lt_of_le h (Nat.pow_le_pow_right (by decide) hi))
theorem c_isThere {M : Mem} {o th i : Nat} (h : M.1 o 0 5 = nI th) (hth : th < 64) (hi : i < 2 ^ 31) : f_X7_isThere o (nI i) M = some (b2 (th.testBit i)) := by
  unfold f_X7_isThere f_X7_isThere_26 f_X7_isThere_27
  rw [if_neg (nI_pos hi), h]
  by_cases h6 : 6 ≤ i
  · rw [if_pos (show (6 : Int32) ≤ nI i from nI_le (a := 6) h6 hi), tb_ge (n := 6) hth h6]; rfl
  · rw [if_neg (show ¬ (6 : Int32) ≤ nI i from fun q => h6 ((nI_leI (a := 6) (by decide) hi).mp q))]
    by_cases hb : th.testBit i = true
    · rw [if_pos ((bt_iff (by omega) (by omega)).mpr hb), hb]; rfl
    · rw [if_neg (fun q => hb ((bt_iff (by omega) (by omega)).mp q))]
      simp only [Bool.not_eq_true] at hb
      rw [hb]; rfl
theorem c_isThereNeg {M : Mem} {o : Nat} {x : Int32} (h : x < 0) : f_X7_isThere o x M = some 0 := by
  unfold f_X7_isThere f_X7_isThere_26 f_X7_isThere_27
  rw [if_pos h]; rfl
theorem c_isHeldOn {M : Mem} {o he i : Nat} (h : M.1 o 0 6 = nI he) (hh : he < 64) (hi : i < 32) : f_X7_isHeldOn o (nI i) M = some (b2 (he.testBit i)) := by
  unfold f_X7_isHeldOn f_X7_isHeldOn_17
  rw [h]
  by_cases hb : he.testBit i = true
  · rw [if_pos ((bt_iff (by omega) (by omega)).mpr hb), hb]; rfl
  · rw [if_neg (fun q => hb ((bt_iff (by omega) (by omega)).mp q))]
    simp only [Bool.not_eq_true] at hb
    rw [hb]; rfl
theorem c_isHeld {M : Mem} {o he i : Nat} {ki : Nat → Nat} (h : M.1 o 0 6 = nI he) (hk : M.1 19 3 i = nI (ki i)) (hh : he < 64) (hi : i < 6) (hki : ki i < 4) : f_X7_isHeld o (nI i) M = some (b2 (isH ki he i)) := by
  unfold f_X7_isHeld f_X7_isHeld_25 f_X7_isHeld_30
  have k1 : (nI (ki i) = 1) = (ki i = 1) := eq_nI (b := 1) (by omega) (by decide)
  rw [if_gd hi (by decide), tn_nI (by omega), hk, h]
  simp only [k1]
  unfold isH
  by_cases h1 : ki i = 1
  · rw [if_pos h1]; simp [h1]; rfl
  · rw [if_neg h1]
    by_cases hb : he.testBit i = true
    · rw [if_pos ((bt_iff (by omega) (by omega)).mpr hb), hb]; simp; rfl
    · rw [if_neg (fun q => hb ((bt_iff (by omega) (by omega)).mp q))]
      simp only [Bool.not_eq_true] at hb
      rw [hb]; simp [h1]; rfl
theorem sub_gt3 {a b : Nat} (ha : a < 8) (hb : b < 8) : ((3 : Int32) < nI a - nI b) = (b + 3 < a) := by
  have : ∀ a, a < 8 → ∀ b, b < 8 → (((3 : Int32) < nI a - nI b) ↔ (b + 3 < a)) := by decide +kernel
  exact propext (this a ha b hb)
theorem sub_lt3 {a b : Nat} (ha : a < 8) (hb : b < 8) : (nI a - nI b < (-3 : Int32)) = (a + 3 < b) := by
  have : ∀ a, a < 8 → ∀ b, b < 8 → ((nI a - nI b < (-3 : Int32)) ↔ (a + 3 < b)) := by decide +kernel
  exact propext (this a ha b hb)
theorem c_isSeen {M : Mem} {o n th s p : Nat} {se go no : Nat → Nat} {he ba : Nat} (h : cS M o n th se go no he ba) (ok : okS n th se go no he) (hn : n ≤ 6) (hs : s < n) (hp : p < 6) : f_X7_isSeen o (nI s) (nI p) M = some (b2 (seesB n th se s p)) := by
  obtain ⟨h1, h2, h3, h4, h5, h6⟩ := h
  obtain ⟨ok1, ok2, ok3⟩ := ok
  have ht : th < 64 := Nat.lt_of_lt_of_le ok1 (two6 hn)
  unfold f_X7_isSeen f_X7_isSeen_46 f_X7_isSeen_47 lt_
  have k1 : (nI s = nI p) = (s = p) := eq_nI (by omega) (by omega)
  rw [if_gd (by omega) (by decide), if_gd hp (by decide), tn_nI (by omega), tn_nI (by omega)]
  simp only [k1, h4]
  unfold seesB
  by_cases e : s = p
  · subst e; rw [if_pos rfl]; simp; rfl
  · rw [if_neg e]
    by_cases hb : th.testBit p = true
    · have hpn := tb_lt ok1 hb
      rw [if_pos ((bt_iff (by omega) (by omega)).mpr hb), h1 s hs, h1 p hpn]
      simp only [sub_gt3 (ok2 s hs).1 (ok2 p hpn).1, sub_lt3 (ok2 s hs).1 (ok2 p hpn).1, hb]
      have e' : ¬ p = s := fun q => e q.symm
      by_cases c1 : se p + 3 < se s
      · rw [if_pos c1]
        have : ¬ se s ≤ se p + 3 := by omega
        simp [this]; rfl
      · rw [if_neg c1]
        by_cases c2 : se s + 3 < se p
        · rw [if_pos c2]
          have : ¬ se p ≤ se s + 3 := by omega
          simp [this]; rfl
        · rw [if_neg c2]
          have g1 : se s ≤ se p + 3 := by omega
          have g2 : se p ≤ se s + 3 := by omega
          simp [g1, g2, e', hpn]; rfl
    · rw [if_neg (fun q => hb ((bt_iff (by omega) (by omega)).mp q))]
      simp only [Bool.not_eq_true] at hb
      rw [hb]; simp; rfl
theorem c_envLoop {M : Mem} {o n th s r : Nat} {se go no row : Nat → Nat} {he ba : Nat} (h : cS M o n th se go no he ba) (ok : okS n th se go no he) (hn : n ≤ 6) (hs : s < n) (hr : ∀ i, i < n → M.1 o r i = nI (row i)) (hrow : ∀ i, i < n → row i < 100) : f_X7_enviedBy_58 o M 100 (nI s) r (nI (row s)) (-9) 0 = some (eI (envF row (seesB n th se s) s 6).1) := by
  have hb : ∀ k, (envF row (seesB n th se s) s k).2 < 100 := by
    intro k
    induction k with
    | zero => exact hrow s hs
    | succ k ih =>
      unfold envF
      split
      · rename_i hc; simp at hc; exact hrow k (seesB_lt hc.1).1
      · exact ih
  refine loopF (fun f i (x : Int32 × Int32) => f_X7_enviedBy_58 o M f (nI s) r x.1 x.2 (nI i)) 6 (fun k => (nI (envF row (seesB n th se s) s k).2, eI (envF row (seesB n th se s) s k).1)) _ ?_ ?_ 100 (by decide)
  · intro f i hi
    have step : ∀ a b, f_X7_enviedBy_94 o M (f_X7_enviedBy_58 o M f) (nI s) r a b (nI i) = f_X7_enviedBy_58 o M f (nI s) r a b (nI (i + 1)) := fun a b => by
      unfold f_X7_enviedBy_94 lt_
      rw [nI_add1]
    show f_X7_enviedBy_58 o M (f + 1) (nI s) r _ _ (nI i) = _
    rw [f_X7_enviedBy_58]
    simp only [step]
    rw [if_neg (show ¬ (6 : Int32) ≤ nI i from fun q => absurd ((nI_leI (a := 6) (by decide) (by omega)).mp q) (by omega)), c_isSeen h ok hn hs hi]
    simp only [if_gd hi (show 6 < 2 ^ 31 by decide)]
    rw [tn_nI (by omega)]
    have e : envF row (seesB n th se s) s (i + 1) = if (seesB n th se s i && decide ((envF row (seesB n th se s) s i).2 < row i)) = true then (some i, row i) else envF row (seesB n th se s) s i := rfl
    simp only [Option.bind_some, if_b2, lt_]
    by_cases hc : seesB n th se s i = true
    · have hin := (seesB_lt hc).1
      have k1 : (nI (row i) ≤ nI (envF row (seesB n th se s) s i).2) = (row i ≤ (envF row (seesB n th se s) s i).2) := le_nI (by have := hrow i hin; omega) (by have := hb i; omega)
      rw [hr i hin]
      simp only [k1]
      by_cases hd : (envF row (seesB n th se s) s i).2 < row i
      · rw [if_neg (by omega), e, hc]
        simp [hd]
        rfl
      · rw [if_pos (by omega), e, hc]
        simp [hd]
    · have e2 : envF row (seesB n th se s) s (i + 1) = envF row (seesB n th se s) s i := by
        rw [e]; simp only [Bool.not_eq_true] at hc; rw [hc]; simp
      rw [if_neg hc, e2]
      split <;> rfl
  · intro f
    show f_X7_enviedBy_58 o M (f + 1) (nI s) r _ _ (nI 6) = _
    rw [f_X7_enviedBy_58, if_pos (show (6 : Int32) ≤ nI 6 from by decide)]
theorem c_enviedBy {M : Mem} {o n th s : Nat} {vo ra ki se go no : Nat → Nat} {he ba : Nat} (hR : cR M n vo ra ki) (oR : okR n vo ra ki) (h : cS M o n th se go no he ba) (ok : okS n th se go no he) (hs : s < n) : f_X7_enviedBy o (nI s) M = some (eI (envy n th ki se go no he s)) := by
  have hn := oR.1
  unfold f_X7_enviedBy f_X7_enviedBy_27 f_X7_enviedBy_30 f_X7_enviedBy_45 lt_
  simp only [if_gd (show s < 6 by omega) (show 6 < 2 ^ 31 by decide)]
  rw [c_isHeld (ki := ki) h.2.2.2.2.1 (hR.2.2.1 s hs) ok.2.2 (by omega) (oR.2 s hs).2.2, tn_nI (by omega), hR.2.2.1 s hs]
  simp only [Option.bind_some, if_b2]
  have k0 : (nI (ki s) = 0) = (ki s = 0) := eq_nI (b := 0) (by have := (oR.2 s hs).2.2; omega) (by decide)
  have k3 : (nI (ki s) = 3) = (ki s = 3) := eq_nI (b := 3) (by have := (oR.2 s hs).2.2; omega) (by decide)
  simp only [k0, k3]
  unfold envy
  by_cases h1 : isH ki he s = true
  · rw [if_pos h1, if_pos h1]; rfl
  · rw [if_neg h1, if_neg h1]
    by_cases h2 : ki s = 0
    · rw [if_pos h2, if_pos h2, if_pos h2, h.2.1 s hs]
      exact c_envLoop h ok hn hs h.2.1 (fun i hi => (ok.2.1 i hi).2.1)
    · rw [if_neg h2, if_neg h2, if_neg h2]
      by_cases h3 : ki s = 3
      · rw [if_pos h3, if_pos h3, h.2.2.1 s hs]
        exact c_envLoop h ok hn hs h.2.2.1 (fun i hi => by have := (ok.2.1 i hi).2.2; omega)
      · rw [if_neg h3, if_neg h3]; rfl
