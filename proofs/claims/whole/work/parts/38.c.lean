/-! acts -/
def giveF (go : Nat → Nat) (s k : Nat) : Nat → Nat := fun i => if i = s then min (go s + k) 99 else go i
def swF (se : Nat → Nat) (a b : Nat) : Nat → Nat := fun i => if i = b then se a else if i = a then se b else se i
theorem va_cpy6 {f g : Nat → Int32} {j : Nat} (h : j < 6) : va_cpy f g 0 0 6 j = f j := by
  unfold va_cpy
  rw [if_pos ⟨by omega, by omega⟩]
  congr 1
  omega
theorem c_copyFrom {M : Mem} {o o1 : Nat} (ho : o1 ≠ o) : ∃ M', f_X7_copyFrom o o1 M = some M' ∧ Alk (fun a b => a = o ∧ b < 4) M M' ∧ (∀ b, (b = 1 ∨ b = 2 ∨ b = 3) → ∀ i, i < 6 → M'.1 o b i = M.1 o1 b i) ∧ (∀ k, (k = 5 ∨ k = 6 ∨ k = 7) → M'.1 o 0 k = M.1 o1 0 k) := by
  have e1 : ∀ M : Mem, ∀ i f b, (sr M o i f).1 o1 b = M.1 o1 b := fun M i f b => sr_ne (fun e => ho e.1)
  have e2 : ∀ M : Mem, ∀ i k x b, (sw M o i k x).1 o1 b = M.1 o1 b := fun M i k x b => sw_ne (fun e => ho e.1)
  refine ⟨_, rfl, ?_, ?_, ?_⟩
  · exact (((((Alk.sr ⟨rfl, by decide⟩).tr (Alk.sr ⟨rfl, by decide⟩)).tr (Alk.sr ⟨rfl, by decide⟩)).tr (Alk.sw ⟨rfl, by decide⟩)).tr (Alk.sw ⟨rfl, by decide⟩)).tr (Alk.sw ⟨rfl, by decide⟩)
  · rintro b (rfl | rfl | rfl) i hi
    · rw [sw_ne (by omega), sw_ne (by omega), sw_ne (by omega), sr_ne (by omega), sr_ne (by omega), sr_same, va_cpy6 hi]
    · rw [sw_ne (by omega), sw_ne (by omega), sw_ne (by omega), sr_ne (by omega), sr_same, va_cpy6 hi, e1]
    · rw [sw_ne (by omega), sw_ne (by omega), sw_ne (by omega), sr_same, va_cpy6 hi, e1, e1]
  · rintro k (rfl | rfl | rfl)
    · rw [sw_same, upd_ne (by decide), sw_same, upd_ne (by decide), sw_same, upd_same, e1, e1, e1]
    · rw [sw_same, upd_ne (by decide), sw_same, upd_same, e2, e1, e1, e1]
    · rw [sw_same, upd_same, e2, e2, e1, e1, e1]
theorem cS_copy {M M' : Mem} {o o1 n th : Nat} {se go no : Nat → Nat} {he ba : Nat} (h : cS M o1 n th se go no he ba) (hn : n ≤ 6) (h1 : ∀ b, (b = 1 ∨ b = 2 ∨ b = 3) → ∀ i, i < 6 → M'.1 o b i = M.1 o1 b i) (h2 : ∀ k, (k = 5 ∨ k = 6 ∨ k = 7) → M'.1 o 0 k = M.1 o1 0 k) : cS M' o n th se go no he ba :=
  ⟨fun i hi => by rw [h1 1 (by omega) i (by omega)]; exact h.1 i hi, fun i hi => by rw [h1 2 (by omega) i (by omega)]; exact h.2.1 i hi, fun i hi => by rw [h1 3 (by omega) i (by omega)]; exact h.2.2.1 i hi, by rw [h2 5 (by omega)]; exact h.2.2.2.1, by rw [h2 6 (by omega)]; exact h.2.2.2.2.1, by rw [h2 7 (by omega)]; exact h.2.2.2.2.2⟩
theorem c_copy {M : Mem} {o o1 n th : Nat} {se go no : Nat → Nat} {he ba : Nat} (ho : o1 ≠ o) (h : cS M o1 n th se go no he ba) (hn : n ≤ 6) : ∃ M', f_X7_copyFrom o o1 M = some M' ∧ Alk (fun a b => a = o ∧ b < 4) M M' ∧ cS M' o n th se go no he ba := by
  obtain ⟨M', e, hA, h1, h2⟩ := c_copyFrom (M := M) ho
  exact ⟨M', e, hA, cS_copy h hn h1 h2⟩
theorem min99 {a : Nat} (ha : a < 1000) : (if (99 : Int32) < nI a then (99 : Int32) else nI a) = nI (min a 99) := by
  have k : ((99 : Int32) < nI a) = (99 < a) := lt_nI (a := 99) (by decide) (by omega)
  simp only [k]
  by_cases h : 99 < a
  · rw [if_pos h, Nat.min_eq_right (by omega)]; rfl
  · rw [if_neg h, Nat.min_eq_left (by omega)]
theorem c_give {M : Mem} {o n th s k : Nat} {se go no : Nat → Nat} {he ba : Nat} (h : cS M o n th se go no he ba) (hn : n ≤ 6) (hs : s < n) (hg : go s < 100) (hk : k < 10) : ∃ M', f_X7_give o (nI s) (nI k) M = some M' ∧ Alk (fun a b => a = o ∧ b = 2) M M' ∧ cS M' o n th se (giveF go s k) no he ba := by
  refine ⟨sw M o 2 s (nI (min (go s + k) 99)), ?_, Alk.sw ⟨rfl, rfl⟩, ?_⟩
  · unfold f_X7_give
    simp only [lt_, if_gd (show s < 6 by omega) (show 6 < 2 ^ 31 by decide)]
    rw [tn_nI (by omega), h.2.1 s hs, nI_add, min99 (by omega)]
  · refine ⟨?_, fun i hi => ?_, ?_, ?_⟩
    · rw [sw_ne (by omega)]; exact h.1
    · rw [sw_same]
      unfold upd giveF
      by_cases e : i = s
      · rw [if_pos e, if_pos e]
      · rw [if_neg e, if_neg e]; exact h.2.1 i hi
    · rw [sw_ne (by omega)]; exact h.2.2.1
    · rw [sw_ne (by omega)]; exact h.2.2.2
theorem c_swap {M : Mem} {o n th a b : Nat} {se go no : Nat → Nat} {he ba : Nat} (h : cS M o n th se go no he ba) (hn : n ≤ 6) (ha : a < n) (hb : b < n) : ∃ M', f_X7_swapSeats o (nI a) (nI b) M = some M' ∧ Alk (fun x y => x = o ∧ y = 1) M M' ∧ cS M' o n th (swF se a b) go no he ba := by
  refine ⟨sw (sw M o 1 a (nI (se b))) o 1 b (nI (se a)), ?_, (Alk.sw ⟨rfl, rfl⟩).tr (Alk.sw ⟨rfl, rfl⟩), ?_⟩
  · unfold f_X7_swapSeats
    simp only [lt_, if_gd (show a < 6 by omega) (show 6 < 2 ^ 31 by decide), if_gd (show b < 6 by omega) (show 6 < 2 ^ 31 by decide)]
    rw [tn_nI (by omega), tn_nI (by omega), h.1 a ha, h.1 b hb]
  · refine ⟨fun i hi => ?_, ?_, ?_, ?_⟩
    · rw [sw_same, sw_same]
      unfold upd swF
      by_cases e : i = b
      · rw [if_pos e, if_pos e]
      · rw [if_neg e, if_neg e]
        by_cases e2 : i = a
        · rw [if_pos e2, if_pos e2]
        · rw [if_neg e2, if_neg e2]; exact h.1 i hi
    · rw [sw_ne (by omega), sw_ne (by omega)]; exact h.2.1
    · rw [sw_ne (by omega), sw_ne (by omega)]; exact h.2.2.1
    · rw [sw_ne (by omega), sw_ne (by omega)]; exact h.2.2.2
theorem c_voices {M : Mem} {o n th : Nat} {vo ra ki se go no : Nat → Nat} {he ba : Nat} (hR : cR M n vo ra ki) (hn : n ≤ 6) (h : cS M o n th se go no he ba) : ∃ M', f_X7_takeVoices o M = some M' ∧ Alk (fun x y => x = o ∧ y = 3) M M' ∧ cS M' o n th se go vo he ba := by
  refine ⟨_, rfl, Alk.sr ⟨rfl, rfl⟩, ?_, ?_, fun i hi => ?_, ?_⟩
  · rw [sr_ne (by omega)]; exact h.1
  · rw [sr_ne (by omega)]; exact h.2.1
  · rw [sr_same, va_cpy6 (by omega)]; exact hR.1 i hi
  · rw [sr_ne (by omega)]; exact h.2.2.2
theorem c_turn {M : Mem} {o n th s : Nat} {se go no : Nat → Nat} {he ba : Nat} (h : cS M o n th se go no he ba) (hs : s < 6) : ∃ M', f_X7_turnHeldOn o (nI s) M = some M' ∧ Alk (fun x y => x = o ∧ y = 0) M M' ∧ cS M' o n th se go no (he ^^^ 2 ^ s) ba := by
  refine ⟨sw M o 0 6 (nI (he ^^^ 2 ^ s)), ?_, Alk.sw ⟨rfl, rfl⟩, ?_, ?_, ?_, ?_, ?_, ?_⟩
  · unfold f_X7_turnHeldOn
    simp only [lt_]
    rw [h.2.2.2.2.1, shl1 (by omega), nI_xor]
  · rw [sw_ne (by omega)]; exact h.1
  · rw [sw_ne (by omega)]; exact h.2.1
  · rw [sw_ne (by omega)]; exact h.2.2.1
  · rw [sw_same, upd_ne (by decide)]; exact h.2.2.2.1
  · rw [sw_same, upd_same]
  · rw [sw_same, upd_ne (by decide)]; exact h.2.2.2.2.2
theorem xor_lt {he s : Nat} (h : he < 64) (hs : s < 6) : he ^^^ 2 ^ s < 64 := Nat.xor_lt_two_pow (n := 6) h (Nat.pow_lt_pow_right (by decide) hs)
theorem m_give {M : Mem} {lv n s k : Nat} {se go no : Nat → Nat} {he ba : Nat} (h : mS M lv n se go no he ba) (hn : n ≤ 6) (hlv : lv ≤ 1) (hs : s < n) (hg : go s < 100) (hk : k < 10) : ∃ M', f_X10_giveOn (nI lv) (nI s) (nI k) M = some M' ∧ Alk (fun a b => a = 27 ∧ b = 4) M M' ∧ mS M' lv n se (giveF go s k) no he ba ∧ ∀ j, (j < 20 * lv ∨ 20 * lv + 20 ≤ j) → M'.1 27 4 j = M.1 27 4 j := by
  refine ⟨sw M 27 4 (20 * lv + 6 + s) (nI (min (go s + k) 99)), ?_, Alk.sw ⟨rfl, rfl⟩, ?_, fun j hj => by rw [sw_same, upd_ne (by omega)]⟩
  · unfold f_X10_giveOn f_X10_giveOn_45
    simp only [lt_, ix20c 6 (show (6 : Int32) = nI 6 from rfl), nI_add]
    simp only [if_gd (show 20 * lv + 6 + s < 40 by omega) (show 40 < 2 ^ 31 by decide)]
    rw [tn_nI (by omega), h.2.1 s hs, nI_add]
    have k1 : (nI (go s + k) ≤ 99) = (go s + k ≤ 99) := le_nI (b := 99) (by omega) (by decide)
    simp only [k1]
    by_cases e : go s + k ≤ 99
    · rw [if_pos e, Nat.min_eq_left e]
    · rw [if_neg e, Nat.min_eq_right (by omega)]; rfl
  · refine ⟨fun i hi => ?_, fun i hi => ?_, fun i hi => ?_, ?_, ?_⟩
    · rw [sw_same, upd_ne (by omega)]; exact h.1 i hi
    · rw [sw_same]
      unfold upd giveF
      by_cases e : i = s
      · rw [if_pos (by omega), if_pos e]
      · rw [if_neg (by omega), if_neg e]; exact h.2.1 i hi
    · rw [sw_same, upd_ne (by omega)]; exact h.2.2.1 i hi
    · rw [sw_same, upd_ne (by omega)]; exact h.2.2.2.1
    · rw [sw_same, upd_ne (by omega)]; exact h.2.2.2.2
theorem m_swap {M : Mem} {lv n a b : Nat} {se go no : Nat → Nat} {he ba : Nat} (h : mS M lv n se go no he ba) (hn : n ≤ 6) (hlv : lv ≤ 1) (ha : a < n) (hb : b < n) : ∃ M', f_X10_changeOn (nI lv) (nI a) (nI b) M = some M' ∧ Alk (fun x y => x = 27 ∧ y = 4) M M' ∧ mS M' lv n (swF se a b) go no he ba ∧ ∀ j, (j < 20 * lv ∨ 20 * lv + 20 ≤ j) → M'.1 27 4 j = M.1 27 4 j := by
  refine ⟨sw (sw M 27 4 (20 * lv + a) (nI (se b))) 27 4 (20 * lv + b) (nI (se a)), ?_, (Alk.sw ⟨rfl, rfl⟩).tr (Alk.sw ⟨rfl, rfl⟩), ?_, fun j hj => by rw [sw_same, upd_ne (by omega), sw_same, upd_ne (by omega)]⟩
  · unfold f_X10_changeOn
    simp only [lt_, ix20]
    simp only [if_gd (show 20 * lv + a < 40 by omega) (show 40 < 2 ^ 31 by decide), if_gd (show 20 * lv + b < 40 by omega) (show 40 < 2 ^ 31 by decide)]
    rw [tn_nI (by omega), tn_nI (by omega), h.1 a ha, h.1 b hb]
  · refine ⟨fun i hi => ?_, fun i hi => ?_, fun i hi => ?_, ?_, ?_⟩
    · rw [sw_same, sw_same]
      unfold upd swF
      by_cases e : i = b
      · rw [if_pos (by omega), if_pos e]
      · rw [if_neg (by omega), if_neg e]
        by_cases e2 : i = a
        · rw [if_pos (by omega), if_pos e2]
        · rw [if_neg (by omega), if_neg e2]; exact h.1 i hi
    · rw [sw_same, upd_ne (by omega), sw_same, upd_ne (by omega)]; exact h.2.1 i hi
    · rw [sw_same, upd_ne (by omega), sw_same, upd_ne (by omega)]; exact h.2.2.1 i hi
    · rw [sw_same, upd_ne (by omega), sw_same, upd_ne (by omega)]; exact h.2.2.2.1
    · rw [sw_same, upd_ne (by omega), sw_same, upd_ne (by omega)]; exact h.2.2.2.2
theorem c_remember {M : Mem} {n th nx ac : Nat} {se go no : Nat → Nat} {he ba : Nat} (h : cS M 0 n th se go no he ba) (hn : n ≤ 6) (hnx : nx < 14) (hac : ac ≤ 14) (h1 : M.1 21 0 1 = nI nx) (h2 : M.1 21 0 2 = nI ac) : ∃ M', f_X0_remember 0 M = some M' ∧ Alk (fun a b => (a = 2 + nx ∧ b < 4) ∨ (a = 21 ∧ b = 0)) M M' ∧ cS M' (2 + nx) n th se go no he ba ∧ M'.1 21 0 1 = nI ((nx + 1) % 14) ∧ M'.1 21 0 2 = nI (min (ac + 1) 14) := by
  obtain ⟨M1, e1, hA1, hS1⟩ := c_copy (M := M) (o := 2 + nx) (o1 := 0) (by omega) h hn
  have g1 : M1.1 21 0 1 = nI nx := by rw [hA1.1 21 0 (by omega)]; exact h1
  have g2 : M1.1 21 0 2 = nI ac := by rw [hA1.1 21 0 (by omega)]; exact h2
  have e35 : ∀ x, f_X0_remember_35 0 x M1 = some (sw (sw M1 21 0 1 x) 21 0 2 (nI (min (ac + 1) 14))) := by
    intro x
    unfold f_X0_remember_35
    simp only [lt_]
    rw [sw_same, upd_ne (by decide), g2, nI_add1]
    have k : ((14 : Int32) < nI (ac + 1)) = (14 < ac + 1) := lt_nI (a := 14) (by decide) (by omega)
    simp only [k]
    by_cases e : 14 < ac + 1
    · rw [if_pos e, Nat.min_eq_right (by omega)]; rfl
    · rw [if_neg e, Nat.min_eq_left (by omega)]
  refine ⟨sw (sw M1 21 0 1 (nI ((nx + 1) % 14))) 21 0 2 (nI (min (ac + 1) 14)), ?_, ?_, ?_, ?_, ?_⟩
  · unfold f_X0_remember
    simp only [lt_]
    rw [h1, if_gd hnx (by decide), tn_nI (by omega), e1]
    simp only [Option.bind_some, e35, g1, nI_add1]
    have k : ((14 : Int32) ≤ nI (nx + 1)) = (14 ≤ nx + 1) := le_nI (a := 14) (by decide) (by omega)
    simp only [k]
    by_cases e : 14 ≤ nx + 1
    · rw [if_pos e, show (nx + 1) % 14 = 0 by omega]; rfl
    · rw [if_neg e, show (nx + 1) % 14 = nx + 1 by omega]
  · exact ((hA1.wk (fun a b e => Or.inl e)).tr (Alk.sw (by omega))).tr (Alk.sw (by omega))
  · exact cS_eq hS1 (fun b _ => by rw [sw_ne (by omega), sw_ne (by omega)])
  · rw [sw_same, upd_ne (by decide), sw_same, upd_same]
  · rw [sw_same, upd_same]
theorem rem14 {a : Nat} (h : a < 2 ^ 31) : nI a - nI a / 14 * 14 = nI (a % 14) := pk_rem (d := 14) h (by decide) (by decide)
theorem m_keepAct {M : Mem} {nx ac : Nat} (hnx : nx < 14) (hac : ac ≤ 14) (h1 : M.1 27 0 15 = nI nx) (h2 : M.1 27 0 14 = nI ac) : ∃ M', f_X10_keepAct M = some M' ∧ Alk (fun a b => a = 27 ∧ (b = 8 ∨ b = 0)) M M' ∧ (∀ k, k < 20 → M'.1 27 8 (20 * nx + k) = M.1 27 4 k) ∧ (∀ k, (k < 20 * nx ∨ 20 * nx + 20 ≤ k) → M'.1 27 8 k = M.1 27 8 k) ∧ (∀ k, k ≠ 14 → k ≠ 15 → M'.1 27 0 k = M.1 27 0 k) ∧ M'.1 27 0 15 = nI ((nx + 1) % 14) ∧ M'.1 27 0 14 = nI (min (ac + 1) 14) := by
  obtain ⟨X, hX⟩ : ∃ X : Nat → Int32, X = fun i => M.1 27 4 i := ⟨_, rfl⟩
  obtain ⟨M1, hM1⟩ : ∃ M1, M1 = wr M 8 (20 * nx) X 20 := ⟨_, rfl⟩
  have hA1 : Alk (fun a b => a = 27 ∧ b = 8) M M1 := by rw [hM1]; exact wr_alk 20
  have e1 : f_X10_keepAct M = some (sw (sw M1 27 0 15 (nI ((nx + 1) % 14))) 27 0 14 (nI (min (ac + 1) 14))) := by
    unfold f_X10_keepAct
    rw [hM1]
    refine loopF (fun f i (M1 : Mem) => f_X10_keepAct_2 f (nI i) M1) 20 (fun k => wr M 8 (20 * nx) X k) _ ?_ ?_ 100 (by omega)
    · intro f i hi
      have hA := wr_alk (M := M) (b := 8) (pl := 20 * nx) (X := X) i
      show f_X10_keepAct_2 (f + 1) (nI i) (wr M 8 (20 * nx) X i) = f_X10_keepAct_2 f (nI (i + 1)) (sw (wr M 8 (20 * nx) X i) 27 8 (20 * nx + i) (X i))
      rw [f_X10_keepAct_2, if_neg (show ¬ (20 : Int32) ≤ nI i from fun q => absurd ((nI_leI (a := 20) (by decide) (by omega)).mp q) (by omega)), if_gd (show i < 40 by omega) (by decide)]
      simp only [lt_, nI_add1]
      rw [hA.1 27 0 (by omega), h1, ix20, if_gd (show 20 * nx + i < 280 by omega) (by decide), tn_nI (by omega), tn_nI (by omega), hA.1 27 4 (by omega), hX]
    · intro f
      have hA := wr_alk (M := M) (b := 8) (pl := 20 * nx) (X := X) 20
      show f_X10_keepAct_2 (f + 1) (nI 20) (wr M 8 (20 * nx) X 20) = _
      rw [f_X10_keepAct_2, if_pos (show (20 : Int32) ≤ nI 20 by decide)]
      unfold f_X10_keepAct_68
      simp only [lt_]
      rw [hA.1 27 0 (by omega), h1, nI_add1, rem14 (by omega), sw_same, upd_ne (by decide), hA.1 27 0 (by omega), h2, nI_add1]
      have k : ((14 : Int32) ≤ nI ac) = (14 ≤ ac) := le_nI (a := 14) (by decide) (by omega)
      simp only [k]
      by_cases e : 14 ≤ ac
      · rw [if_pos e, Nat.min_eq_right (by omega)]; rfl
      · rw [if_neg e, Nat.min_eq_left (by omega)]
  refine ⟨_, e1, ((hA1.wk (fun a b e => by omega)).tr (Alk.sw (by omega))).tr (Alk.sw (by omega)), fun k hk => ?_, fun k hk => ?_, fun k k1 k2 => ?_, ?_, ?_⟩
  · rw [sw_ne (by omega), sw_ne (by omega), hM1, wr_at 20 k hk, hX]
  · rw [sw_ne (by omega), sw_ne (by omega), hM1, wr_out 20 hk]
  · rw [sw_same, upd_ne k1, sw_same, upd_ne k2, hA1.1 27 0 (by omega)]
  · rw [sw_same, upd_ne (by decide), sw_same, upd_same]
  · rw [sw_same, upd_same]
/-- an act on both sides keeps the whole -/
theorem act_inv {M M3 : Mem} {n nx ac : Nat} {vo ra ki se go no se' go' no' : Nat → Nat} {he ba he' ba' : Nat} (hI : Inv M) (hN : Now M n vo ra ki se go no he ba) (hSh : Shf M n) (hnx : nx < 14) (hac : ac ≤ 14)
    (hr : ∀ j, j < 14 → (nx + 13 - j) % 14 < ac → Slo M n (2 + j) 8 (20 * j))
    (a1 : ∀ a b, ¬ (a = 0 ∨ a = 1 ∨ a = 2 + nx ∨ a = 21 ∨ a = 27) → M3.1 a b = M.1 a b)
    (a2 : ∀ b, ¬ (b = 0 ∨ b = 4 ∨ b = 7 ∨ b = 8) → M3.1 27 b = M.1 27 b) (a3 : ∀ k, k ≠ 14 → k ≠ 15 → M3.1 27 0 k = M.1 27 0 k) (a4 : M3.2 = M.2)
    (b1 : cS M3 (2 + nx) n (2 ^ n - 1) se go no he ba) (b2_ : ∀ k, k < 20 → M3.1 27 8 (20 * nx + k) = M.1 27 4 k) (b3 : ∀ k, (k < 20 * nx ∨ 20 * nx + 20 ≤ k) → M3.1 27 8 k = M.1 27 8 k)
    (c1 : M3.1 21 0 1 = nI ((nx + 1) % 14)) (c2 : M3.1 21 0 2 = nI (min (ac + 1) 14)) (c3 : M3.1 27 0 15 = nI ((nx + 1) % 14)) (c4 : M3.1 27 0 14 = nI (min (ac + 1) 14))
    (d1 : okS n (2 ^ n - 1) se' go' no' he') (d2 : cS M3 0 n (2 ^ n - 1) se' go' no' he' ba') (d3 : mS M3 0 n se' go' no' he' ba') : Inv M3 := by
  obtain ⟨-, hH, hT, hsd⟩ := hI
  obtain ⟨oR, hcR, hmR, ok, hcS, hmS, hTh⟩ := hN
  obtain ⟨fl, s1, s2, s3⟩ := hSh
  have hn := oR.1
  refine ⟨⟨n, vo, ra, ki, se', go', no', he', ba', ⟨oR, ?_, ?_, d1, d2, d3, ?_⟩, ⟨(nx + 1) % 14, min (ac + 1) 14, by omega, by omega, c1, c2, c3, c4, fun j hj hv => ?_⟩, ⟨fl, s1, by rw [a1 22 0 (by omega)]; exact s2, fun i hi => ⟨by rw [a2 13 (by omega)]; exact (s3 i hi).1, fun hb => Slo_eq ((s3 i hi).2 hb) (fun x _ => a1 _ _ (by omega)) (fun k _ => by rw [a2 14 (by omega)]) hn⟩⟩⟩, Hrd_eq hH (fun b => a1 23 b (by omega)) (fun b e => a2 b (by omega)) (a3 18 (by decide) (by decide)), Txt_eq hT (fun b => a1 18 b (by omega)) (a2 6 (by omega)) (a3 9 (by decide) (by decide)), by rw [a4]; exact hsd⟩
  · unfold cR; rw [a1 19 0 (by omega), a1 19 1 (by omega), a1 19 2 (by omega), a1 19 3 (by omega)]; exact hcR
  · unfold mR; rw [a2 1 (by omega), a2 2 (by omega), a2 3 (by omega), a3 0 (by decide) (by decide)]; exact hmR
  · unfold mT; rw [a3 12 (by decide) (by decide)]; exact hTh
  · by_cases e : j = nx
    · subst e
      refine ⟨se, go, no, he, ba, ok, b1, fun i hi => ?_, fun i hi => ?_, fun i hi => ?_, ?_, ?_⟩
      · rw [b2_ i (by omega)]; have := hmS.1 i hi; rwa [show 20 * 0 + i = i by omega] at this
      · rw [show 20 * j + 6 + i = 20 * j + (6 + i) by omega, b2_ _ (by omega)]; have := hmS.2.1 i hi; rwa [show 20 * 0 + 6 + i = 6 + i by omega] at this
      · rw [show 20 * j + 12 + i = 20 * j + (12 + i) by omega, b2_ _ (by omega)]; have := hmS.2.2.1 i hi; rwa [show 20 * 0 + 12 + i = 12 + i by omega] at this
      · rw [b2_ 18 (by omega)]; exact hmS.2.2.2.1
      · rw [b2_ 19 (by omega)]; exact hmS.2.2.2.2
    · refine Slo_eq (hr j hj (by omega)) (fun x _ => a1 _ _ (by omega)) (fun k _ => b3 _ (by omega)) hn
theorem op_pitch : Op f_X9_pitch f_X10_pitch := by
  intro M hI
  obtain ⟨⟨n, vo, ra, ki, se, go, no, he, ba, hN, ⟨nx, ac, r1, r2, r3, r4, r5, r6, r7⟩, hSh⟩, hH, hT, hsd⟩ := id hI
  obtain ⟨oR, hcR, hmR, ok, hcS, hmS, hTh⟩ := id hN
  have hn := oR.1
  obtain ⟨M1, e1, A1, S1, x1, y1⟩ := c_remember hcS hn r1 r2 r3 r4
  obtain ⟨M2, e2, A2, S2⟩ := c_voices (cR_alk hcR A1 (fun b e => by omega)) hn (cS_alk hcS A1 (fun b _ e => by omega))
  have ok2 : okS n (2 ^ n - 1) se go vo he := ⟨ok.1, fun i hi => ⟨(ok.2.1 i hi).1, (ok.2.1 i hi).2.1, (oR.2 i hi).1⟩, ok.2.2⟩
  have A12 : Alk (fun a b => a = 0 ∨ a = 2 + nx ∨ a = 21) M M2 := (A1.wk (fun a b e => by omega)).tr (A2.wk (fun a b e => by omega))
  have mR2 := mR_alk hmR A12 (fun b _ e => by omega)
  have mS2 := mS_alk hmS A12 (by omega)
  obtain ⟨M3, e3, A3, k1, k2, k3, k4, k5⟩ := m_keepAct (M := M2) r1 r2 (by rw [A12.1 27 0 (by omega)]; exact r5) (by rw [A12.1 27 0 (by omega)]; exact r6)
  have mR3 : mR M3 n vo ra ki := by unfold mR; rw [A3.1 27 1 (by omega), A3.1 27 2 (by omega), A3.1 27 3 (by omega), k3 0 (by decide) (by decide)]; exact mR2
  have mT3 : mT M3 63 := by unfold mT; rw [k3 12 (by decide) (by decide), A12.1 27 0 (by omega)]; exact hTh
  obtain ⟨M4, e4, A4, S4, o4⟩ := m_pitchOn (lv := 0) mR3 hn (mS_alk mS2 A3 (by omega)) (by decide)
  have mR4 := mR_alk mR3 A4 (fun b _ e => by omega)
  have hrich : f_X10_notesOn 0 M4 = some (nI (mskF (fun i => Nat.testBit 63 i) vo n)) := m_notesOn (lv := 0) mR4 hn S4 (mT_alk mT3 A4 (by omega)) (by decide) (fun i hi => (oR.2 i hi).1) (by decide)
  refine ⟨nI (rich (2 ^ n - 1) vo), M2, M4, ?_, ?_, ?_⟩
  · unfold f_X9_pitch
    rw [e1]
    simp only [Option.bind_some]
    rw [e2]
    simp only [Option.bind_some]
    rw [c_richness S2 ok2 hn]
    rfl
  · unfold f_X10_pitch
    rw [e3]
    simp only [Option.bind_some]
    rw [show (0 : Int32) = nI 0 from rfl, e4]
    simp only [Option.bind_some]
    rw [show nI 0 = (0 : Int32) from rfl, hrich, msk_63 hn, msk6 hn (full_lt n)]
    simp only [Option.bind_some]
    rw [m_ones (by have : mskF (fun i => Nat.testBit (2 ^ n - 1) i) vo 6 < 2 ^ 10 := mskF_lt (fun i _ hp => (oR.2 i (tb_lt (full_lt n) hp)).1); omega)]
    rfl
  · have B : Alk (fun a b => a = 27 ∧ (b = 8 ∨ b = 0 ∨ b = 4)) M2 M4 := (A3.wk (fun a b e => by omega)).tr (A4.wk (fun a b e => by omega))
    refine act_inv hI hN hSh r1 r2 r7 (fun a b e => by rw [B.1 a b (by omega), A12.1 a b (by omega)]) (fun b e => by rw [B.1 27 b (by omega), A12.1 27 b (by omega)]) (fun k h1 h2 => by rw [A4.1 27 0 (by omega), k3 k h1 h2, A12.1 27 0 (by omega)]) (by rw [B.2, A12.2]) (cS_eq S1 (fun b _ => by rw [B.1 _ b (by omega), A2.1 _ b (by omega)])) (fun k hk => by rw [A4.1 27 8 (by omega), k1 k hk, A12.1 27 4 (by omega)]) (fun k hk => by rw [A4.1 27 8 (by omega), k2 k hk, A12.1 27 8 (by omega)]) (by rw [B.1 21 0 (by omega), A2.1 21 0 (by omega)]; exact x1) (by rw [B.1 21 0 (by omega), A2.1 21 0 (by omega)]; exact y1) (by rw [A4.1 27 0 (by omega)]; exact k4) (by rw [A4.1 27 0 (by omega)]; exact k5) ok2 (cS_eq S2 (fun b _ => B.1 0 b (by omega))) S4
