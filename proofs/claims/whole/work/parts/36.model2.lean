theorem clamp_eq2 {v r x : Nat} (hv : v < 10) (hr : r < 10) (hx : x < 10) : (if nI x ≤ nI v + nI r then if nI v - nI r ≤ nI x then some (nI x) else some (nI v - nI r) else some (nI v + nI r)) = some (nI (clampN v r x)) := by
  have : ∀ v, v < 10 → ∀ r, r < 10 → ∀ x, x < 10 → (if nI x ≤ nI v + nI r then if nI v - nI r ≤ nI x then some (nI x) else some (nI v - nI r) else some (nI v + nI r)) = some (nI (clampN v r x)) := by decide +kernel
  exact this v hv r hr x hx
theorem eI_ne {q : Nat} (h : q < 6) : ¬ nI q = (-9 : Int32) := by
  have : ∀ q, q < 6 → ¬ nI q = (-9 : Int32) := by decide +kernel
  exact this q h
theorem m_noteThen {M : Mem} {lv n th s : Nat} {vo ra ki se go no : Nat → Nat} {he ba : Nat} (hR : mR M n vo ra ki) (oR : okR n vo ra ki) (h : mS M lv n se go no he ba) (hT : mT M th) (hth : th < 64) (ok : okB n se go no he) (hlv : lv ≤ 1) (hs : s < n) : f_X10_noteThen (nI lv) (nI s) M = some (nI (nxt n th vo ra ki se go no he s)) := by
  have hn := oR.1
  unfold f_X10_noteThen f_X10_noteThen_46 f_X10_noteThen_119 lt_
  rw [m_enviesOf hR oR h hT hth ok hlv hs, m_kindNow hR oR h ok.2 hlv hs]
  simp only [Option.bind_some, nI_add, ix20c 12 (show (12 : Int32) = nI 12 from rfl)]
  simp only [if_gd (show s < 6 by omega) (show 6 < 2 ^ 31 by decide), if_gd (show 20 * lv + 12 + s < 40 by omega) (show 40 < 2 ^ 31 by decide)]
  rw [tn_nI (n := s) (by omega), hR.1 s hs, hR.2.1 s hs, tn_nI (n := 20 * lv + 12 + s) (by omega), h.2.2.1 s hs]
  unfold nxt
  cases e : envy n th ki se go no he s with
  | none =>
    rw [if_pos (show eI none = -9 from rfl)]
    unfold isH
    have k1 : (nI (ki s) = 1) = (ki s = 1) := eq_nI (b := 1) (by have := (oR.2 s hs).2.2; omega) (by decide)
    by_cases hb : he.testBit s = true
    · rw [if_pos hb, if_pos rfl]; simp [hb]
    · simp only [if_neg hb, k1]
      simp only [Bool.not_eq_true] at hb
      rw [hb]
      by_cases h1 : ki s = 1
      · simp [h1]
      · simp [h1]
  | some q =>
    have hq := (envy_some e).1
    have hnh : ¬ isH ki he s = true := fun q => by
      unfold envy at e
      rw [if_pos q] at e
      cases e
    rw [show eI (some q) = nI q from rfl, if_neg (eI_ne (by omega)), nI_add, if_gd (show 20 * lv + 12 + q < 40 by omega) (by decide), tn_nI (by omega), h.2.2.1 q hq, if_neg hnh]
    exact clamp_eq2 (oR.2 s hs).1 (oR.2 s hs).2.1 (ok.1 q hq).2.2
/-- k writes from place pl on in a row of the reference -/
def wr (M : Mem) (b pl : Nat) (X : Nat → Int32) : Nat → Mem
  | 0 => M
  | k + 1 => sw (wr M b pl X k) 27 b (pl + k) (X k)
theorem wr_alk {M : Mem} {b pl : Nat} {X : Nat → Int32} : ∀ k, Alk (fun x y => x = 27 ∧ y = b) M (wr M b pl X k) := by
  intro k
  induction k with
  | zero => exact Alk.rf
  | succ k ih => exact ih.tr (Alk.sw ⟨rfl, rfl⟩)
theorem wr_at {M : Mem} {b pl : Nat} {X : Nat → Int32} : ∀ k j, j < k → (wr M b pl X k).1 27 b (pl + j) = X j := by
  intro k
  induction k with
  | zero => intro j hj; omega
  | succ k ih =>
    intro j hj
    show (sw (wr M b pl X k) 27 b (pl + k) (X k)).1 27 b (pl + j) = X j
    rw [sw_same]
    unfold upd
    by_cases e : j = k
    · subst e; rw [if_pos rfl]
    · rw [if_neg (by omega)]; exact ih j (by omega)
theorem wr_out {M : Mem} {b pl : Nat} {X : Nat → Int32} {j : Nat} : ∀ k, (j < pl ∨ pl + k ≤ j) → (wr M b pl X k).1 27 b j = M.1 27 b j := by
  intro k
  induction k with
  | zero => intro _; rfl
  | succ k ih =>
    intro hj
    show (sw (wr M b pl X k) 27 b (pl + k) (X k)).1 27 b j = _
    rw [sw_same]
    unfold upd
    rw [if_neg (by omega)]
    exact ih (by omega)
theorem mR_alk {P : Nat → Nat → Prop} {M M' : Mem} {n : Nat} {vo ra ki : Nat → Nat} (h : mR M n vo ra ki) (hA : Alk P M M') (hP : ∀ b, b < 4 → ¬ P 27 b) : mR M' n vo ra ki := by
  unfold mR
  rw [hA.1 27 0 (hP 0 (by decide)), hA.1 27 1 (hP 1 (by decide)), hA.1 27 2 (hP 2 (by decide)), hA.1 27 3 (hP 3 (by decide))]
  exact h
theorem mS_alk {P : Nat → Nat → Prop} {M M' : Mem} {lv n : Nat} {se go no : Nat → Nat} {he ba : Nat} (h : mS M lv n se go no he ba) (hA : Alk P M M') (hP : ¬ P 27 4) : mS M' lv n se go no he ba := by
  unfold mS
  rw [hA.1 27 4 hP]
  exact h
theorem mT_alk {P : Nat → Nat → Prop} {M M' : Mem} {th : Nat} (h : mT M th) (hA : Alk P M M') (hP : ¬ P 27 0) : mT M' th := by
  unfold mT
  rw [hA.1 27 0 hP]
  exact h
def nxA (n th : Nat) (vo ra ki se go no : Nat → Nat) (he : Nat) : Nat → Nat := fun i => nxt n th vo ra ki se go no he i
theorem m_passOn {M : Mem} {lv n th : Nat} {vo ra ki se go no : Nat → Nat} {he ba : Nat} (hR : mR M n vo ra ki) (oR : okR n vo ra ki) (h : mS M lv n se go no he ba) (hT : mT M th) (hth : th < 64) (ok : okB n se go no he) (hlv : lv ≤ 1) :
    ∃ M', f_X10_passOn (nI lv) M = some M' ∧ Alk (fun a b => a = 27 ∧ (b = 4 ∨ b = 7)) M M' ∧ mS M' lv n se go (nxA n th vo ra ki se go no he) he (ba + 1) ∧ ∀ k, (k < 20 * lv ∨ 20 * lv + 20 ≤ k) → M'.1 27 4 k = M.1 27 4 k := by
  have hn := oR.1
  obtain ⟨X, hX⟩ : ∃ X : Nat → Int32, X = fun i => nI (nxA n th vo ra ki se go no he i) := ⟨_, rfl⟩
  have e1 : f_X10_passOn (nI lv) M = f_X10_passOn_30 100 (nI lv) 0 (wr M 7 0 X n) := by
    unfold f_X10_passOn
    refine loopF (fun f i (M1 : Mem) => f_X10_passOn_2 f (nI lv) (nI i) M1) n (fun k => wr M 7 0 X k) _ ?_ ?_ 100 (by omega)
    · intro f i hi
      have hA := wr_alk (M := M) (b := 7) (pl := 0) (X := X) i
      show f_X10_passOn_2 (f + 1) (nI lv) (nI i) (wr M 7 0 X i) = f_X10_passOn_2 f (nI lv) (nI (i + 1)) (sw (wr M 7 0 X i) 27 7 (0 + i) (X i))
      have hR2 := mR_alk hR hA (fun b hb e => by omega)
      rw [f_X10_passOn_2, hR2.2.2.2, if_neg (nI_ge hi (by omega)), m_noteThen hR2 oR (mS_alk h hA (by omega)) (mT_alk hT hA (by omega)) hth ok hlv hi]
      simp only [Option.bind_some, lt_]
      rw [if_gd (show i < 6 by omega) (by decide), tn_nI (by omega), nI_add1, Nat.zero_add, hX]
      rfl
    · intro f
      have hA := wr_alk (M := M) (b := 7) (pl := 0) (X := X) n
      show f_X10_passOn_2 (f + 1) (nI lv) (nI n) (wr M 7 0 X n) = _
      rw [f_X10_passOn_2, (mR_alk hR hA (fun b hb e => by omega)).2.2.2, if_pos (nI_le (Nat.le_refl n) (by omega))]
  obtain ⟨M1, hM1⟩ : ∃ M1, M1 = wr M 7 0 X n := ⟨_, rfl⟩
  have hA1 : Alk (fun x y => x = 27 ∧ y = 7) M M1 := by rw [hM1]; exact wr_alk n
  have h7 : ∀ j, j < n → M1.1 27 7 j = X j := fun j hj => by
    have := wr_at (M := M) (b := 7) (pl := 0) (X := X) n j hj
    rw [Nat.zero_add] at this
    rw [hM1]; exact this
  have hR1 := mR_alk hR hA1 (fun b hb e => by omega)
  have hS1 := mS_alk h hA1 (by omega)
  obtain ⟨M2, hM2⟩ : ∃ M2, M2 = wr M1 4 (20 * lv + 12) X n := ⟨_, rfl⟩
  have e2 : f_X10_passOn_30 100 (nI lv) 0 M1 = some (sw M2 27 4 (20 * lv + 19) (M2.1 27 4 (20 * lv + 19) + 1)) := by
    rw [hM2]
    refine loopF (fun f i (M1 : Mem) => f_X10_passOn_30 f (nI lv) (nI i) M1) n (fun k => wr M1 4 (20 * lv + 12) X k) _ ?_ ?_ 100 (by omega)
    · intro f i hi
      have hA := wr_alk (M := M1) (b := 4) (pl := 20 * lv + 12) (X := X) i
      show f_X10_passOn_30 (f + 1) (nI lv) (nI i) (wr M1 4 (20 * lv + 12) X i) = f_X10_passOn_30 f (nI lv) (nI (i + 1)) (sw (wr M1 4 (20 * lv + 12) X i) 27 4 (20 * lv + 12 + i) (X i))
      rw [f_X10_passOn_30, (mR_alk hR1 hA (fun b hb e => by omega)).2.2.2, if_neg (nI_ge hi (by omega)), if_gd (show i < 6 by omega) (by decide)]
      simp only [lt_, nI_add, nI_add1, ix20c 12 (show (12 : Int32) = nI 12 from rfl)]
      rw [if_gd (show 20 * lv + 12 + i < 40 by omega) (by decide), tn_nI (by omega), tn_nI (by omega), hA.1 27 7 (by omega), h7 i hi]
    · intro f
      have hA := wr_alk (M := M1) (b := 4) (pl := 20 * lv + 12) (X := X) n
      show f_X10_passOn_30 (f + 1) (nI lv) (nI n) (wr M1 4 (20 * lv + 12) X n) = _
      rw [f_X10_passOn_30, (mR_alk hR1 hA (fun b hb e => by omega)).2.2.2, if_pos (nI_le (Nat.le_refl n) (by omega))]
      simp only [lt_, ix20c 19 (show (19 : Int32) = nI 19 from rfl)]
      rw [if_gd (show 20 * lv + 19 < 40 by omega) (by decide), if_gd (show 20 * lv + 19 < 40 by omega) (by decide), tn_nI (by omega)]
  have hA2 : Alk (fun x y => x = 27 ∧ y = 4) M1 M2 := by rw [hM2]; exact wr_alk n
  have ho : ∀ j, (j < 20 * lv + 12 ∨ 20 * lv + 12 + n ≤ j) → M2.1 27 4 j = M.1 27 4 j := fun j hj => by
    rw [hM2, wr_out n hj, hA1.1 27 4 (by omega)]
  have hi2 : ∀ j, j < n → M2.1 27 4 (20 * lv + 12 + j) = X j := fun j hj => by rw [hM2]; exact wr_at n j hj
  refine ⟨_, e1.trans (by rw [← hM1]; exact e2), ?_, ?_, ?_⟩
  · exact ((hA1.wk (fun a b e => ⟨e.1, Or.inr e.2⟩)).tr (hA2.wk (fun a b e => ⟨e.1, Or.inl e.2⟩))).tr (Alk.sw ⟨rfl, Or.inl rfl⟩)
  · refine ⟨fun i hi => ?_, fun i hi => ?_, fun i hi => ?_, ?_, ?_⟩
    · rw [sw_same]; unfold upd; rw [if_neg (by omega), ho _ (by omega)]; exact h.1 i hi
    · rw [sw_same]; unfold upd; rw [if_neg (by omega), ho _ (by omega)]; exact h.2.1 i hi
    · rw [sw_same]; unfold upd; rw [if_neg (by omega), hi2 i hi, hX]
    · rw [sw_same]; unfold upd; rw [if_neg (by omega), ho _ (by omega)]; exact h.2.2.2.1
    · rw [sw_same]; unfold upd; rw [if_pos rfl, ho _ (by omega), h.2.2.2.2, nI_add1]
  · intro k hk
    rw [sw_same]
    unfold upd
    rw [if_neg (by omega), ho _ (by omega)]
theorem m_notesOn {M : Mem} {lv n th : Nat} {vo ra ki se go no : Nat → Nat} {he ba : Nat} (hR : mR M n vo ra ki) (hn : n ≤ 6) (h : mS M lv n se go no he ba) (hT : mT M th) (hth : th < 64) (hno : ∀ i, i < n → no i < 10) (hlv : lv ≤ 1) : f_X10_notesOn (nI lv) M = some (nI (mskF (fun i => th.testBit i) no n)) := by
  unfold f_X10_notesOn
  refine loopF (fun f i (x : Int32) => f_X10_notesOn_4 M f (nI lv) x (nI i)) n (fun k => nI (mskF (fun i => th.testBit i) no k)) _ ?_ ?_ 100 (by omega)
  · intro f i hi
    have step : ∀ a b, f_X10_notesOn_44 M (f_X10_notesOn_4 M f) (nI lv) (nI i) a b = f_X10_notesOn_4 M f (nI lv) (a ||| b) (nI (i + 1)) := fun a b => by
      unfold f_X10_notesOn_44 lt_
      rw [nI_add1]
    show f_X10_notesOn_4 M (f + 1) (nI lv) _ (nI i) = f_X10_notesOn_4 M f (nI lv) (nI (if th.testBit i = true then mskF (fun i => th.testBit i) no i ||| 2 ^ no i else mskF (fun i => th.testBit i) no i)) (nI (i + 1))
    have or0 : ∀ a, nI a ||| (0 : Int32) = nI a := fun a => by rw [show (0 : Int32) = nI 0 from rfl, nI_or, Nat.or_zero]
    rw [f_X10_notesOn_4]
    simp only [step, lt_, hR.2.2.2, nI_add, ix20c 12 (show (12 : Int32) = nI 12 from rfl)]
    rw [if_neg (nI_ge hi (by omega)), hT, m_has (by omega) (by omega)]
    simp only [Option.bind_some, if_b2]
    rw [if_gd (show 20 * lv + 12 + i < 40 by omega) (by decide), tn_nI (by omega), h.2.2.1 i hi, shl1 (by have := hno i hi; omega), or0, nI_or]
    split <;> rfl
  · intro f
    show f_X10_notesOn_4 M (f + 1) (nI lv) _ (nI n) = _
    rw [f_X10_notesOn_4, hR.2.2.2, if_pos (nI_le (Nat.le_refl n) (by omega))]
theorem msk6 {n th : Nat} {no : Nat → Nat} (hn : n ≤ 6) (hth : th < 2 ^ n) : mskF (fun i => th.testBit i) no n = mskF (fun i => th.testBit i) no 6 := by
  have := mskF_stop (P := fun i => th.testBit i) (row := no) (n := n) (fun i hi => tb_ge hth hi) (6 - n)
  rw [show n + (6 - n) = 6 by omega] at this
  exact this.symm
/-- how many notes, as the reference counts them -/
theorem m_rich {M : Mem} {lv n th : Nat} {vo ra ki se go no : Nat → Nat} {he ba : Nat} (hR : mR M n vo ra ki) (hn : n ≤ 6) (h : mS M lv n se go no he ba) (hT : mT M th) (hth : th < 2 ^ n) (hno : ∀ i, i < n → no i < 10) (hlv : lv ≤ 1) : (f_X10_notesOn (nI lv) M).bind (fun q => f_X10_ones q M) = some (nI (rich th no)) := by
  rw [m_notesOn hR hn h hT (Nat.lt_of_lt_of_le hth (two6 hn)) hno hlv, msk6 hn hth]
  simp only [Option.bind_some]
  have hl : mskF (fun i => th.testBit i) no 6 < 2 ^ 10 := mskF_lt (fun i _ hp => hno i (tb_lt hth hp))
  exact m_ones (by omega)
theorem m_pitchOn {M : Mem} {lv n : Nat} {vo ra ki se go no : Nat → Nat} {he ba : Nat} (hR : mR M n vo ra ki) (hn : n ≤ 6) (h : mS M lv n se go no he ba) (hlv : lv ≤ 1) :
    ∃ M', f_X10_pitchOn (nI lv) M = some M' ∧ Alk (fun a b => a = 27 ∧ b = 4) M M' ∧ mS M' lv n se go vo he ba ∧ ∀ k, (k < 20 * lv ∨ 20 * lv + 20 ≤ k) → M'.1 27 4 k = M.1 27 4 k := by
  obtain ⟨X, hX⟩ : ∃ X : Nat → Int32, X = fun i => M.1 27 1 i := ⟨_, rfl⟩
  have e1 : f_X10_pitchOn (nI lv) M = some (wr M 4 (20 * lv + 12) X n) := by
    unfold f_X10_pitchOn
    refine loopF (fun f i (M1 : Mem) => f_X10_pitchOn_2 f (nI lv) (nI i) M1) n (fun k => wr M 4 (20 * lv + 12) X k) _ ?_ ?_ 100 (by omega)
    · intro f i hi
      have hA := wr_alk (M := M) (b := 4) (pl := 20 * lv + 12) (X := X) i
      show f_X10_pitchOn_2 (f + 1) (nI lv) (nI i) (wr M 4 (20 * lv + 12) X i) = f_X10_pitchOn_2 f (nI lv) (nI (i + 1)) (sw (wr M 4 (20 * lv + 12) X i) 27 4 (20 * lv + 12 + i) (X i))
      rw [f_X10_pitchOn_2, (mR_alk hR hA (fun b hb e => by omega)).2.2.2, if_neg (nI_ge hi (by omega)), if_gd (show i < 6 by omega) (by decide)]
      simp only [lt_, nI_add, nI_add1, ix20c 12 (show (12 : Int32) = nI 12 from rfl)]
      rw [if_gd (show 20 * lv + 12 + i < 40 by omega) (by decide), tn_nI (by omega), tn_nI (by omega), hA.1 27 1 (by omega), hX]
    · intro f
      have hA := wr_alk (M := M) (b := 4) (pl := 20 * lv + 12) (X := X) n
      show f_X10_pitchOn_2 (f + 1) (nI lv) (nI n) (wr M 4 (20 * lv + 12) X n) = _
      rw [f_X10_pitchOn_2, (mR_alk hR hA (fun b hb e => by omega)).2.2.2, if_pos (nI_le (Nat.le_refl n) (by omega))]
  refine ⟨_, e1, wr_alk n, ⟨fun i hi => ?_, fun i hi => ?_, fun i hi => ?_, ?_, ?_⟩, fun k hk => wr_out n (by omega)⟩
  · rw [wr_out n (by omega)]; exact h.1 i hi
  · rw [wr_out n (by omega)]; exact h.2.1 i hi
  · rw [wr_at n i hi, hX]; exact hR.1 i hi
  · rw [wr_out n (by omega)]; exact h.2.2.2.1
  · rw [wr_out n (by omega)]; exact h.2.2.2.2
theorem m_layTrial {M : Mem} : ∃ M', f_X10_layTrial M = some M' ∧ Alk (fun a b => a = 27 ∧ b = 4) M M' ∧ (∀ k, k < 20 → M'.1 27 4 (20 + k) = M.1 27 4 k) ∧ ∀ k, k < 20 → M'.1 27 4 k = M.1 27 4 k := by
  obtain ⟨X, hX⟩ : ∃ X : Nat → Int32, X = fun i => M.1 27 4 i := ⟨_, rfl⟩
  have e1 : f_X10_layTrial M = some (wr M 4 20 X 20) := by
    unfold f_X10_layTrial
    refine loopF (fun f i (M1 : Mem) => f_X10_layTrial_2 f (nI i) M1) 20 (fun k => wr M 4 20 X k) _ ?_ ?_ 100 (by omega)
    · intro f i hi
      show f_X10_layTrial_2 (f + 1) (nI i) (wr M 4 20 X i) = f_X10_layTrial_2 f (nI (i + 1)) (sw (wr M 4 20 X i) 27 4 (20 + i) (X i))
      rw [f_X10_layTrial_2, if_neg (show ¬ (20 : Int32) ≤ nI i from fun q => absurd ((nI_leI (a := 20) (by decide) (by omega)).mp q) (by omega)), if_gd (show i < 40 by omega) (by decide)]
      simp only [lt_, nI_add1]
      rw [show (20 : Int32) + nI i = nI (20 + i) from nI_add 20 i, if_gd (show 20 + i < 40 by omega) (by decide), tn_nI (by omega), tn_nI (by omega), wr_out i (by omega), hX]
    · intro f
      show f_X10_layTrial_2 (f + 1) (nI 20) (wr M 4 20 X 20) = _
      rw [f_X10_layTrial_2, if_pos (show (20 : Int32) ≤ nI 20 from by decide)]
  exact ⟨_, e1, wr_alk 20, fun k hk => by rw [wr_at 20 k hk, hX], fun k hk => wr_out 20 (by omega)⟩
theorem m_lay {M : Mem} {n : Nat} {se go no : Nat → Nat} {he ba : Nat} (hn : n ≤ 6) (h : mS M 0 n se go no he ba) : ∃ M', f_X10_layTrial M = some M' ∧ Alk (fun a b => a = 27 ∧ b = 4) M M' ∧ mS M' 1 n se go no he ba ∧ ∀ k, k < 20 → M'.1 27 4 k = M.1 27 4 k := by
  obtain ⟨M', e, hA, h1, h0⟩ := m_layTrial (M := M)
  refine ⟨M', e, hA, ⟨fun i hi => ?_, fun i hi => ?_, fun i hi => ?_, ?_, ?_⟩, h0⟩
  · have := h.1 i hi; rw [show 20 * 0 + i = i by omega] at this; rw [show 20 * 1 + i = 20 + i by omega, h1 i (by omega), this]
  · have := h.2.1 i hi; rw [show 20 * 0 + 6 + i = 6 + i by omega] at this; rw [show 20 * 1 + 6 + i = 20 + (6 + i) by omega, h1 _ (by omega), this]
  · have := h.2.2.1 i hi; rw [show 20 * 0 + 12 + i = 12 + i by omega] at this; rw [show 20 * 1 + 12 + i = 20 + (12 + i) by omega, h1 _ (by omega), this]
  · exact (h1 18 (by omega)).trans h.2.2.2.1
  · exact (h1 19 (by omega)).trans h.2.2.2.2
def itA (n th : Nat) (vo ra ki se go no : Nat → Nat) (he : Nat) : Nat → Nat → Nat
  | 0 => no
  | k + 1 => nxA n th vo ra ki se go (itA n th vo ra ki se go no he k) he
theorem itA_lt {n th : Nat} {vo ra ki se go no : Nat → Nat} {he : Nat} (oR : okR n vo ra ki) (hno : ∀ i, i < n → no i < 10) : ∀ k i, i < n → itA n th vo ra ki se go no he k i < 10 := by
  intro k
  induction k with
  | zero => exact hno
  | succ k ih => exact fun i hi => nxt_lt oR ih hi
theorem okB_itA {n th : Nat} {vo ra ki se go no : Nat → Nat} {he : Nat} (oR : okR n vo ra ki) (ok : okB n se go no he) (k : Nat) : okB n se go (itA n th vo ra ki se go no he k) he := ⟨fun i hi => ⟨(ok.1 i hi).1, (ok.1 i hi).2.1, itA_lt oR (fun i hi => (ok.1 i hi).2.2) k i hi⟩, ok.2⟩
/-- those who are there sing alike -/
theorem itA_itr {n th : Nat} {vo ra ki se go no : Nat → Nat} {he : Nat} : ∀ k i, i < n → th.testBit i = true → itA n th vo ra ki se go no he k i = itr n th vo ra ki se go no he k i := by
  intro k
  induction k with
  | zero => intro i _ _; rfl
  | succ k ih =>
    intro i hi hb
    show nxt n th vo ra ki se go (itA n th vo ra ki se go no he k) he i = stp n th vo ra ki se go (itr n th vo ra ki se go no he k) he i
    unfold stp
    rw [if_pos hb]
    exact nxt_congr (ih i hi hb) ih
theorem m_goOn {M : Mem} {n th : Nat} {vo ra ki se go no : Nat → Nat} {he ba m : Nat} (hR : mR M n vo ra ki) (oR : okR n vo ra ki) (h : mS M 1 n se go no he ba) (hT : mT M th) (hth : th < 64) (ok : okB n se go no he) (hm : m ≤ 60) :
    ∃ M', f_X10_goOn (nI m) M = some M' ∧ Alk (fun a b => a = 27 ∧ (b = 4 ∨ b = 7)) M M' ∧ mS M' 1 n se go (itA n th vo ra ki se go no he m) he (ba + m) ∧ ∀ k, k < 20 → M'.1 27 4 k = M.1 27 4 k := by
  unfold f_X10_goOn
  refine loopE (fun f i (M1 : Mem) => f_X10_goOn_2 f (nI m) (nI i) M1) m (fun i M1 => Alk (fun a b => a = 27 ∧ (b = 4 ∨ b = 7)) M M1 ∧ mS M1 1 n se go (itA n th vo ra ki se go no he i) he (ba + i) ∧ ∀ k, k < 20 → M1.1 27 4 k = M.1 27 4 k) (fun r => ∃ M', r = some M' ∧ Alk (fun a b => a = 27 ∧ (b = 4 ∨ b = 7)) M M' ∧ mS M' 1 n se go (itA n th vo ra ki se go no he m) he (ba + m) ∧ ∀ k, k < 20 → M'.1 27 4 k = M.1 27 4 k) ?_ ?_ m 0 (by omega) 100 M (by omega) ⟨Alk.rf, h, fun _ _ => rfl⟩
  · rintro f i M1 hi ⟨hA, hS, h0⟩
    left
    obtain ⟨M', e, hA', hS', h0'⟩ := m_passOn (lv := 1) (mR_alk hR hA (fun b hb e => by omega)) oR hS (mT_alk hT hA (by omega)) hth (okB_itA oR ok i) (by decide)
    refine ⟨M', ?_, hA.tr hA', hS', fun k hk => by rw [h0' k (by omega), h0 k hk]⟩
    show f_X10_goOn_2 (f + 1) (nI m) (nI i) M1 = _
    rw [f_X10_goOn_2, if_neg (nI_ge hi (by omega)), show (1 : Int32) = nI 1 from rfl, e]
    simp only [Option.bind_some, lt_]
    rw [show nI i + nI 1 = nI (i + 1) from nI_add i 1]
  · rintro f M1 ⟨hA, hS, h0⟩
    refine ⟨M1, ?_, hA, hS, h0⟩
    show f_X10_goOn_2 (f + 1) (nI m) (nI m) M1 = _
    rw [f_X10_goOn_2, if_pos (nI_le (Nat.le_refl m) (by omega))]
