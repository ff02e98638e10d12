theorem TxtX_m {M M' : Mem} {len : Nat} {tx : Nat → Nat} (h : TxtX M len tx) (hA : QM M M') : TxtX M' len tx := by
  unfold TxtX at *
  rw [hA.1 18 0 (by omega), hA.1 18 1 (by omega), hA.2.2.1 9 (by omega), hA.1 27 6 (by omega)]
  exact h
theorem QM_0 {M : Mem} {k : Nat} {x : Int32} (h : k = 6 ∨ k = 7 ∨ k = 10 ∨ k = 11) : QM M (sw M 27 0 k x) := ⟨fun a b q => sw_ne (by omega), fun j _ => by rw [sw_ne (by omega)], fun j hj => by rw [sw_same, upd_ne (by omega)], rfl⟩
theorem QM_5 {M : Mem} {k : Nat} {x : Int32} : QM M (sw M 27 5 k x) := ⟨fun a b q => sw_ne (by omega), fun j _ => by rw [sw_ne (by omega)], fun j hj => by rw [sw_ne (by omega)], rfl⟩
theorem ne9 : ∀ b, b < 49 → ¬ nI b = (-9 : Int32) := by decide +kernel
theorem m_figOK {M : Mem} {len i mk : Nat} {tx : Nat → Nat} (hT : TxtX M len tx) (h11 : M.1 27 0 11 = -9) (h10 : M.1 27 0 10 = nI i) (hi : i < len) (h48 : 48 ≤ tx i) (h57 : tx i ≤ 57) (hm : mk < 2 ^ 31) (hb : mk.testBit (tx i - 48) = true) : f_X10_figureOf (nI mk) M = some (nI (tx i - 48), sw M 27 0 10 (nI (i + 1))) := by
  obtain ⟨t1, -, t3, t4⟩ := hT
  obtain ⟨x1, -, x3⟩ := t4 i hi
  unfold f_X10_figureOf f_X10_figureOf_25 f_X10_figureOf_46
  rw [if_pos h11, t3, h10, if_neg (nI_ge hi (by omega)), if_neg (show ¬ (1 : Int32) = 0 by decide), lt_, if_gd (show i < 48 by omega) (by decide), tn_nI (by omega), x3, if_neg (show ¬ (1 : Int32) = 0 by decide), show f_X10_in (nI (tx i) - 48).toInt64 0 9 M = some (b2 (wi 0 9 (nI (tx i) - 48))) from m_within, wi9 _ x1, show nI (tx i) - 48 = nI (tx i - 48) from pk_sub (b := 48) h48, m_has hm (by omega), hb]
  simp only [Option.bind_some, if_b2]
  rw [if_pos (by simp [h48, h57]), if_pos trivial, lt_, nI_add1]
theorem m_fig71 {M : Mem} {len i : Nat} {tx : Nat → Nat} (hT : TxtX M len tx) (h11 : M.1 27 0 11 = -9) (h10 : M.1 27 0 10 = nI i) : f_X10_figureOf_71 M = some (0, sw M 27 0 11 (nI i)) := by
  unfold f_X10_figureOf_71 f_X10_figureOf_92
  rw [if_pos h11, h10, lt_]
theorem m_figBad {M : Mem} {len i mk : Nat} {tx : Nat → Nat} (hT : TxtX M len tx) (h11 : M.1 27 0 11 = -9) (h10 : M.1 27 0 10 = nI i) (hi48 : i ≤ 48) (hm : mk < 2 ^ 31) (h : i < len → ¬ (48 ≤ tx i ∧ tx i ≤ 57 ∧ mk.testBit (tx i - 48) = true)) : f_X10_figureOf (nI mk) M = some (0, sw M 27 0 11 (nI i)) := by
  obtain ⟨t1, -, t3, t4⟩ := id hT
  unfold f_X10_figureOf f_X10_figureOf_24 f_X10_figureOf_25 f_X10_figureOf_46
  rw [if_pos h11, t3, h10, if_pos (show (0 : Int32) = 0 from rfl), if_pos (show (0 : Int32) = 0 from rfl), m_fig71 hT h11 h10]
  rcases Nat.lt_or_ge i len with c | c
  · obtain ⟨x1, -, x3⟩ := t4 i c
    rw [if_neg (nI_ge c (by omega)), if_neg (show ¬ (1 : Int32) = 0 by decide), lt_, if_gd (show i < 48 by omega) (by decide), tn_nI (by omega), x3, if_neg (show ¬ (1 : Int32) = 0 by decide), show f_X10_in (nI (tx i) - 48).toInt64 0 9 M = some (b2 (wi 0 9 (nI (tx i) - 48))) from m_within, wi9 _ x1]
    simp only [Option.bind_some, if_b2]
    by_cases cw : (decide (48 ≤ tx i) && decide (tx i ≤ 57)) = true
    · rw [if_pos cw]
      simp at cw
      rw [show nI (tx i) - 48 = nI (tx i - 48) from pk_sub (b := 48) cw.1, m_has hm (by omega)]
      simp only [Option.bind_some, if_b2]
      rw [if_neg (fun q => h c ⟨cw.1, cw.2, q⟩)]
    · rw [if_neg cw]
  · rw [if_pos (nI_le c (by omega))]
theorem m_figBad2 {M : Mem} {v x : Int32} (h11 : M.1 27 0 11 = x) (hx : ¬ x = -9) : f_X10_figureOf v M = some (0, sw M 27 0 11 x) := by
  unfold f_X10_figureOf f_X10_figureOf_24 f_X10_figureOf_25 f_X10_figureOf_46 f_X10_figureOf_71 f_X10_figureOf_92
  rw [h11, if_neg hx, if_neg hx, if_pos (show (0 : Int32) = 0 from rfl), if_pos (show (0 : Int32) = 0 from rfl), lt_]
def vF (tx : Nat → Nat) (x : Nat) : Nat := tx (6 * (x / 5) + 2 + x % 5) - 48
/-- while a singer's figures are read: k of them -/
def SG (M : Mem) (tx : Nat → Nat) (b c k : Nat) : Prop := M.1 27 0 6 = nI c ∧ M.1 27 0 7 = nI (tkF tx c) ∧ ((6 * c + 2 + k ≤ b ∧ M.1 27 0 10 = nI (6 * c + 2 + k) ∧ M.1 27 0 11 = -9 ∧ ∀ x, x < 5 * c + k → M.1 27 5 x = nI (vF tx x)) ∨ (b < 6 * c + 2 + k ∧ M.1 27 0 11 = nI b))
theorem m_stage {M : Mem} {len b c k mk : Nat} {tx : Nat → Nat} (hT : TxtX M len tx) (hB : Brk tx len b) (hS : SG M tx b c k) (hk : k < 5) (hm : mk < 2 ^ 31) (hmk : 6 * c + 2 + k < len → 6 * c + 2 + k ≤ b → (stB tx (6 * c + 2 + k) = true ↔ (48 ≤ tx (6 * c + 2 + k) ∧ tx (6 * c + 2 + k) ≤ 57 ∧ mk.testBit (tx (6 * c + 2 + k) - 48) = true))) : ∃ q M', f_X10_figureOf (nI mk) M = some (q, M') ∧ QM M (sw M' 27 5 (5 * c + k) q) ∧ SG (sw M' 27 5 (5 * c + k) q) tx b c (k + 1) := by
  have b37 := Brk_37 hB
  obtain ⟨s1, s2, s3⟩ := hS
  rcases s3 with ⟨g1, g2, g3, g4⟩ | ⟨g1, g2⟩
  · by_cases e : 6 * c + 2 + k < b
    · have hl : 6 * c + 2 + k < len := Nat.lt_of_lt_of_le e hB.1
      obtain ⟨m1, m2, m3⟩ := (hmk hl g1).mp (hB.2.1 _ e)
      refine ⟨_, _, m_figOK hT g3 g2 hl m1 m2 hm m3, (QM_0 (by omega)).tr QM_5, ?_, ?_, Or.inl ⟨by omega, ?_, ?_, fun x hx => ?_⟩⟩
      · rw [sw_ne (by omega), sw_same, upd_ne (by omega)]; exact s1
      · rw [sw_ne (by omega), sw_same, upd_ne (by omega)]; exact s2
      · rw [sw_ne (by omega), sw_same, upd_same]; rfl
      · rw [sw_ne (by omega), sw_same, upd_ne (by omega)]; exact g3
      · rw [sw_same]
        by_cases ex : x = 5 * c + k
        · rw [ex, upd_same]
          unfold vF
          rw [show (5 * c + k) / 5 = c by omega, show (5 * c + k) % 5 = k by omega]
        · rw [upd_ne ex, sw_ne (by omega)]
          exact g4 x (by omega)
    · obtain rfl : b = 6 * c + 2 + k := by omega
      refine ⟨_, _, m_figBad hT g3 g2 (by omega) hm (fun hl q => ?_), (QM_0 (by omega)).tr QM_5, ?_, ?_, Or.inr ⟨by omega, ?_⟩⟩
      · have := (hmk hl g1).mpr q
        rw [hB.2.2 hl] at this
        cases this
      · rw [sw_ne (by omega), sw_same, upd_ne (by omega)]; exact s1
      · rw [sw_ne (by omega), sw_same, upd_ne (by omega)]; exact s2
      · rw [sw_ne (by omega), sw_same, upd_same]
  · refine ⟨_, _, m_figBad2 g2 (ne9 b (by omega)), (QM_0 (by omega)).tr QM_5, ?_, ?_, Or.inr ⟨by omega, ?_⟩⟩
    · rw [sw_ne (by omega), sw_same, upd_ne (by omega)]; exact s1
    · rw [sw_ne (by omega), sw_same, upd_ne (by omega)]; exact s2
    · rw [sw_ne (by omega), sw_same, upd_same]
theorem mask7 : ∀ t, t < 256 → (255 : Int32) &&& (nI t ^^^ (-1 : Int32)) = nI (255 ^^^ t) := by decide +kernel
theorem mk1023 : ∀ x, x < 10 → Nat.testBit 1023 x = true := by decide
theorem mk15 : ∀ x, x < 10 → Nat.testBit 15 x = decide (x < 4) := by decide
theorem mk255 {t x : Nat} (hx : x < 10) (ht : t < 256) : (255 ^^^ t).testBit x = (decide (x < 8) && !t.testBit x) := by
  rw [Nat.testBit_xor, show Nat.testBit 255 x = decide (x < 8) from tb_full (n := 8)]
  by_cases c : x < 8
  · simp [c]
  · rw [tb_ge (n := 8) ht (by omega)]; simp [c]
theorem st_0 {tx : Nat → Nat} {c : Nat} (hc : c < 6) : stB tx (6 * c + 1) = decide (tx (6 * c + 1) = 83) := by
  unfold stB
  rw [if_neg (by omega), if_neg (by omega), if_pos (by omega)]
theorem st_1 {tx : Nat → Nat} {c : Nat} (hc : c < 6) : stB tx (6 * c + 2) = ((decide (48 ≤ tx (6 * c + 2)) && decide (tx (6 * c + 2) ≤ 55)) && !((tkF tx c).testBit (tx (6 * c + 2) - 48))) := by
  unfold stB
  rw [if_neg (by omega), if_neg (by omega), if_neg (by omega), if_pos (by omega), show (6 * c + 2 - 1) / 6 = c by omega]
theorem st_k {tx : Nat → Nat} {c k : Nat} (hc : c < 6) (h1 : 1 ≤ k) (h3 : k ≤ 3) : stB tx (6 * c + 2 + k) = (decide (48 ≤ tx (6 * c + 2 + k)) && decide (tx (6 * c + 2 + k) ≤ 57)) := by
  unfold stB
  rw [if_neg (by omega), if_neg (by omega), if_neg (by omega), if_neg (by omega), if_neg (by omega)]
theorem st_4 {tx : Nat → Nat} {c : Nat} (hc : c < 6) : stB tx (6 * c + 2 + 4) = (decide (48 ≤ tx (6 * c + 2 + 4)) && decide (tx (6 * c + 2 + 4) ≤ 51)) := by
  unfold stB
  rw [if_neg (by omega), if_neg (by omega), if_neg (by omega), if_neg (by omega), if_pos (by omega)]
