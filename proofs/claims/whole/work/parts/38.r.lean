/-! the text -/
def tkF (tx : Nat → Nat) : Nat → Nat
  | 0 => 0
  | j + 1 => tkF tx j ||| 2 ^ (tx (6 * j + 2) - 48)
def stB (tx : Nat → Nat) (i : Nat) : Bool :=
  if i = 0 then decide (tx 0 = 67)
  else if 36 < i then false
  else if (i - 1) % 6 = 0 then decide (tx i = 83)
  else if (i - 1) % 6 = 1 then (decide (48 ≤ tx i) && decide (tx i ≤ 55)) && !((tkF tx ((i - 1) / 6)).testBit (tx i - 48))
  else if (i - 1) % 6 = 5 then decide (48 ≤ tx i) && decide (tx i ≤ 51)
  else decide (48 ≤ tx i) && decide (tx i ≤ 57)
theorem st_seat {tx : Nat → Nat} {j : Nat} (h : stB tx (6 * j + 2) = true) : 48 ≤ tx (6 * j + 2) ∧ tx (6 * j + 2) ≤ 55 := by
  unfold stB at h
  by_cases c : 36 < 6 * j + 2
  · rw [if_neg (by omega), if_pos c] at h; cases h
  · rw [if_neg (by omega), if_neg c, if_neg (by omega), if_pos (by omega)] at h
    simp at h
    exact h.1
theorem tkF_lt {tx : Nat → Nat} : ∀ {j : Nat}, (∀ k, k < j → tx (6 * k + 2) ≤ 55) → tkF tx j < 256 := by
  intro j
  induction j with
  | zero => intro _; show 0 < 256; decide
  | succ j ih =>
    intro h
    have h1 := ih (fun k hk => h k (by omega))
    have h2 := h j (by omega)
    simp only [tkF]
    exact Nat.or_lt_two_pow (n := 8) h1 (Nat.pow_lt_pow_right (by decide) (by omega))
theorem wi7 : ∀ ch, ch < 256 → wi 0 7 (nI ch - 48) = (decide (48 ≤ ch) && decide (ch ≤ 55)) := by decide +kernel
theorem wi3 : ∀ ch, ch < 256 → wi 0 3 (nI ch - 48) = (decide (48 ≤ ch) && decide (ch ≤ 51)) := by decide +kernel
theorem wi9 : ∀ ch, ch < 256 → wi 0 9 (nI ch - 48) = (decide (48 ≤ ch) && decide (ch ≤ 57)) := by decide +kernel
theorem c_part {M : Mem} {i : Nat} (h0 : 1 ≤ i) (hi : i ≤ 48) : f_X5_part (nI i) M = some (nI ((i - 1) % 6)) := by
  unfold f_X5_part f_X5_part_16
  rw [if_pos (show (1 : Int32) ≤ nI i from nI_le (a := 1) h0 (by omega)), lt_, show nI i - 1 = nI (i - 1) from pk_sub (b := 1) h0, show nI (i - 1) - nI (i - 1) / 6 * 6 = nI ((i - 1) % 6) from pk_rem (d := 6) (by omega) (by decide) (by decide)]
theorem bit0 {m i : Nat} (hm : m < 2 ^ 31) (hi : i < 32) : (((nI m >>> (nI i &&& 31)) &&& (1 : Int32)) = 0) = (m.testBit i = false) := by
  rw [bit_b2 hm hi]
  exact propext (b2_0 _)
theorem c_canStand {M : Mem} {tx : Nat → Nat} {i : Nat} (hi : i < 48) (htx : tx i < 256) (htk : tkF tx ((i + 3) / 6) < 256) : f_X5_canStand (nI i) (nI (tx i)) (nI (tkF tx ((i + 3) / 6))) M = some (b2 (stB tx i)) := by
  unfold f_X5_canStand f_X5_canStand_15 f_X5_canStand_79 f_X5_canStand_102 f_X5_canStand_103
  have k0 : (nI i = 0) = (i = 0) := eq_nI (b := 0) (by omega) (by decide)
  have k36 : (nI i ≤ 36) = (i ≤ 36) := le_nI (b := 36) (by omega) (by decide)
  have kC : (nI (tx i) = 67) = (tx i = 67) := eq_nI (b := 67) (by omega) (by decide)
  have kS : (nI (tx i) = 83) = (tx i = 83) := eq_nI (b := 83) (by omega) (by decide)
  simp only [k0, k36, kC, kS]
  unfold stB
  by_cases e0 : i = 0
  · subst e0
    rw [if_pos rfl, if_pos rfl]
    by_cases c : tx 0 = 67 <;> simp [c, b2]
  rw [if_neg e0, if_neg e0]
  by_cases e36 : i ≤ 36
  case neg => rw [if_neg e36, if_pos (by omega)]; rfl
  rw [if_pos e36, if_neg (show ¬ 36 < i by omega), lt_, c_part (by omega) (by omega)]
  simp only [Option.bind_some]
  have p6 : (i - 1) % 6 < 6 := Nat.mod_lt _ (by decide)
  have p0 : (nI ((i - 1) % 6) = 0) = ((i - 1) % 6 = 0) := eq_nI (b := 0) (by omega) (by decide)
  have p1 : (nI ((i - 1) % 6) = 1) = ((i - 1) % 6 = 1) := eq_nI (b := 1) (by omega) (by decide)
  have p5 : (nI ((i - 1) % 6) = 5) = ((i - 1) % 6 = 5) := eq_nI (b := 5) (by omega) (by decide)
  rw [show f_X9_isWithin (nI (tx i) - 48) 0 7 M = some (b2 (wi 0 7 (nI (tx i) - 48))) from c_within, show f_X9_isWithin (nI (tx i) - 48) 0 3 M = some (b2 (wi 0 3 (nI (tx i) - 48))) from c_within, show f_X9_isWithin (nI (tx i) - 48) 0 9 M = some (b2 (wi 0 9 (nI (tx i) - 48))) from c_within, wi7 _ htx, wi3 _ htx, wi9 _ htx]
  simp only [p0, p1, p5, Option.bind_some, if_b2, if_pos (b2_01 _)]
  by_cases c0 : (i - 1) % 6 = 0
  · rw [if_pos c0, if_pos c0]
    by_cases c : tx i = 83 <;> simp [c, b2]
  rw [if_neg c0, if_neg c0]
  by_cases c1 : (i - 1) % 6 = 1
  · rw [if_pos c1, if_pos c1]
    by_cases cw : (decide (48 ≤ tx i) && decide (tx i ≤ 55)) = true
    · rw [if_pos cw, cw]
      simp at cw
      rw [show nI (tx i) - 48 = nI (tx i - 48) from pk_sub (b := 48) cw.1, show (i + 3) / 6 = (i - 1) / 6 by omega] at *
      have kb := bit0 (m := tkF tx ((i - 1) / 6)) (i := tx i - 48) (by omega) (by omega)
      simp only [kb]
      by_cases cb : (tkF tx ((i - 1) / 6)).testBit (tx i - 48) = false
      · simp [cb, b2]
      · simp at cb
        simp [cb, b2]
    · rw [if_neg cw]
      simp only [Bool.not_eq_true] at cw
      rw [cw]
      rfl
  rw [if_neg c1, if_neg c1]
  by_cases c5 : (i - 1) % 6 = 5
  · rw [if_pos c5, if_pos c5]
  · rw [if_neg c5, if_neg c5]
/-- where the text first breaks or ends -/
def Brk (tx : Nat → Nat) (len b : Nat) : Prop := b ≤ len ∧ (∀ i, i < b → stB tx i = true) ∧ (b < len → stB tx b = false)
theorem Brk_ex (tx : Nat → Nat) (len : Nat) : ∃ b, Brk tx len b := by
  induction len with
  | zero => exact ⟨0, by omega, fun i hi => by omega, fun h => by omega⟩
  | succ len ih =>
    obtain ⟨b, h1, h2, h3⟩ := ih
    by_cases e : b < len
    · exact ⟨b, by omega, h2, fun _ => h3 e⟩
    · obtain rfl : b = len := by omega
      by_cases c : stB tx b = true
      · refine ⟨b + 1, by omega, fun i hi => ?_, fun h => by omega⟩
        by_cases e : i = b
        · rw [e]; exact c
        · exact h2 i (by omega)
      · exact ⟨b, by omega, h2, fun _ => by simpa using c⟩
theorem Brk_37 {tx : Nat → Nat} {len b : Nat} (h : Brk tx len b) : b ≤ 37 := by
  rcases Nat.lt_or_ge 37 b with c | c
  · have := h.2.1 37 c
    unfold stB at this
    rw [if_neg (by omega), if_pos (by omega)] at this
    cases this
  · exact c
theorem Brk_tk {tx : Nat → Nat} {len b j : Nat} (h : Brk tx len b) (hj : 6 * j < b + 4) : tkF tx j < 256 := tkF_lt (fun k hk => (st_seat (h.2.1 (6 * k + 2) (by omega))).2)
def ansT (len b : Nat) : Int32 := if b = len ∧ 0 < len ∧ (len - 1) % 6 = 0 then -9 else nI b
def TxtX (M : Mem) (len : Nat) (tx : Nat → Nat) : Prop := len ≤ 48 ∧ M.1 18 0 1 = nI len ∧ M.1 27 0 9 = nI len ∧ ∀ i, i < len → tx i < 256 ∧ M.1 18 1 i = nI (tx i) ∧ M.1 27 6 i = nI (tx i)
theorem c_fault {M : Mem} {tx : Nat → Nat} {len b : Nat} (hT : TxtX M len tx) (hB : Brk tx len b) : f_X5_firstFault M = some (ansT len b) := by
  obtain ⟨t1, t2, -, t4⟩ := hT
  have b37 := Brk_37 hB
  obtain ⟨b1, b2', b3⟩ := id hB
  unfold f_X5_firstFault
  have := loopE (fun f i (_ : Unit) => f_X5_firstFault_4 M f (nI (tkF tx ((i + 3) / 6))) (nI i)) b (fun i _ => True) (fun r => r = some (ansT len b)) ?_ ?_ b 0 (by omega) 100 () (by omega) trivial
  · exact this
  · rintro f i _ hi _
    left
    refine ⟨(), ?_, trivial⟩
    show f_X5_firstFault_4 M (f + 1) (nI (tkF tx ((i + 3) / 6))) (nI i) = f_X5_firstFault_4 M f (nI (tkF tx ((i + 1 + 3) / 6))) (nI (i + 1))
    obtain ⟨x1, x2, -⟩ := t4 i (by omega)
    have hst := b2' i hi
    have gi : ¬ (nI i < 0 ∨ 48 ≤ i) := fun q => q.elim (nI_pos (by omega)) (by omega)
    rw [f_X5_firstFault_4, t2, if_neg (nI_ge (by omega) (by omega)), if_neg (show ¬ (48 : Int32) ≤ nI i from fun q => absurd ((nI_leI (a := 48) (by decide) (by omega)).mp q) (by omega)), tn_nI (by omega), if_pos gi, x2, c_canStand (by omega) x1 (Brk_tk hB (by omega)), hst]
    simp only [Option.bind_some]
    rw [if_neg (show ¬ b2 true = 0 by decide)]
    unfold f_X5_firstFault_59
    rcases Nat.eq_zero_or_pos i with e0 | e0
    · subst e0
      rw [show f_X5_part (nI 0) M = some (-9) from rfl]
      simp only [Option.bind_some]
      rw [if_neg (show ¬ (-9 : Int32) = 1 by decide), lt_, nI_add1]
    · rw [c_part e0 (by omega)]
      simp only [Option.bind_some]
      have p1 : (nI ((i - 1) % 6) = 1) = ((i - 1) % 6 = 1) := eq_nI (b := 1) (by omega) (by decide)
      simp only [p1]
      by_cases c1 : (i - 1) % 6 = 1
      · obtain ⟨j, rfl⟩ : ∃ j, i = 6 * j + 2 := ⟨(i - 1) / 6, by omega⟩
        have ss := st_seat hst
        rw [if_pos c1, if_pos gi, lt_, lt_, nI_add1, show nI (tx (6 * j + 2)) - 48 = nI (tx (6 * j + 2) - 48) from pk_sub (b := 48) ss.1, shl1 (by omega), nI_or, show (6 * j + 2 + 3) / 6 = j by omega, show (6 * j + 2 + 1 + 3) / 6 = j + 1 by omega]
        rfl
      · rw [if_neg c1, lt_, nI_add1, show (i + 1 + 3) / 6 = (i + 3) / 6 by omega]
  · rintro f _ _
    show f_X5_firstFault_4 M (f + 1) (nI (tkF tx ((b + 3) / 6))) (nI b) = _
    unfold ansT
    rcases Nat.lt_or_ge b len with c | c
    · obtain ⟨x1, x2, -⟩ := t4 b c
      rw [f_X5_firstFault_4, t2, if_neg (nI_ge c (by omega)), if_neg (show ¬ (48 : Int32) ≤ nI b from fun q => absurd ((nI_leI (a := 48) (by decide) (by omega)).mp q) (by omega)), if_gd (show b < 48 by omega) (by decide), tn_nI (by omega), x2, c_canStand (by omega) x1 (Brk_tk hB (by omega)), b3 c]
      simp only [Option.bind_some]
      rw [if_pos (show b2 false = 0 by decide), if_neg (by omega)]
    · obtain rfl : b = len := by omega
      rw [f_X5_firstFault_4, t2, if_pos (nI_le (Nat.le_refl b) (by omega))]
      unfold f_X5_firstFault_65 f_X5_firstFault_86 f_X5_firstFault_87 f_X5_firstFault_101
      rw [t2, if_neg (show ¬ (1 : Int32) = 0 by decide), if_pos (show (0 : Int32) = 0 from rfl)]
      rcases Nat.eq_zero_or_pos b with e0 | e0
      · subst e0
        rw [if_pos (show nI 0 ≤ 0 by decide), if_neg (by omega)]
      · rw [if_neg (nI_nle e0 (by omega)), c_part e0 (by omega)]
        simp only [Option.bind_some]
        have p0 : (nI ((b - 1) % 6) = 0) = ((b - 1) % 6 = 0) := eq_nI (b := 0) (by omega) (by decide)
        simp only [p0]
        by_cases c0 : (b - 1) % 6 = 0
        · rw [if_pos c0, if_pos ⟨trivial, e0, c0⟩]
        · rw [if_neg c0, if_neg (fun q => c0 q.2.2)]
