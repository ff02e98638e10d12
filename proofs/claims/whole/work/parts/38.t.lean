/-- a reader between two singers -/
def RG (M : Mem) (tx : Nat → Nat) (b c : Nat) : Prop := 6 * c + 1 ≤ b ∧ M.1 27 0 6 = nI c ∧ M.1 27 0 7 = nI (tkF tx c) ∧ M.1 27 0 10 = nI (6 * c + 1) ∧ M.1 27 0 11 = -9 ∧ ∀ x, x < 5 * c → M.1 27 5 x = nI (vF tx x)
theorem m_rp63 {M : Mem} {len b c : Nat} {tx : Nat → Nat} (hT : TxtX M len tx) (hB : Brk tx len b) (hc : c < 6) (hS : SG M tx b c 1) : ∃ M', f_X10_readPart_63 100 (nI (5 * c)) 1 M = some M' ∧ QM M M' ∧ (RG M' tx b (c + 1) ∨ (M'.1 27 0 11 = nI b ∧ b < 6 * (c + 1) + 1)) := by
  refine loopE (fun f k (M1 : Mem) => f_X10_readPart_63 f (nI (5 * c)) (nI k) M1) 4 (fun k M1 => 1 ≤ k ∧ QM M M1 ∧ SG M1 tx b c k) (fun r => ∃ M', r = some M' ∧ QM M M' ∧ (RG M' tx b (c + 1) ∨ (M'.1 27 0 11 = nI b ∧ b < 6 * (c + 1) + 1))) ?_ ?_ 3 1 (by omega) 100 M (by omega) ⟨by omega, QM.rf, hS⟩
  · rintro f k M1 hk ⟨k1, Q1, S1⟩
    left
    obtain ⟨q, M2, e2, Q2, S2⟩ := m_stage (mk := 1023) (TxtX_m hT Q1) hB S1 (by omega) (by decide) (fun hl hb => by
      rw [st_k hc k1 (by omega)]
      constructor
      · intro h
        simp at h
        exact ⟨h.1, h.2, mk1023 _ (by omega)⟩
      · rintro ⟨h1, h2, -⟩
        simp [h1, h2])
    refine ⟨sw M2 27 5 (5 * c + k) q, ?_, by omega, Q1.tr Q2, S2⟩
    show f_X10_readPart_63 (f + 1) (nI (5 * c)) (nI k) M1 = _
    rw [f_X10_readPart_63, if_neg (show ¬ (4 : Int32) ≤ nI k from fun q => absurd ((nI_leI (a := 4) (by decide) (by omega)).mp q) (by omega)), show f_X10_figureOf 1023 M1 = _ from e2]
    simp only [Option.bind_some]
    rw [lt_, nI_add, if_gd (show 5 * c + k < 30 by omega) (by decide), lt_, lt_, tn_nI (by omega), nI_add1]
  · rintro f M1 ⟨k1, Q1, S1⟩
    obtain ⟨q, M2, e2, Q2, S2⟩ := m_stage (mk := 15) (TxtX_m hT Q1) hB S1 (by omega) (by decide) (fun hl hb => by
      rw [st_4 hc]
      constructor
      · intro h
        simp at h
        exact ⟨h.1, by omega, by rw [mk15 _ (by omega)]; simp; omega⟩
      · rintro ⟨h1, h2, h3⟩
        rw [mk15 _ (by omega)] at h3
        simp at h3
        simp [h1]
        omega)
    obtain ⟨s1, s2, s3⟩ := S2
    show ∃ M', f_X10_readPart_63 (f + 1) (nI (5 * c)) (nI 4) M1 = some M' ∧ _
    rw [f_X10_readPart_63, if_pos (show (4 : Int32) ≤ nI 4 by decide), show f_X10_figureOf 15 M1 = _ from e2]
    simp only [Option.bind_some]
    rw [lt_, show nI (5 * c) + 4 = nI (5 * c + 4) from nI_add _ 4, if_gd (show 5 * c + 4 < 30 by omega) (by decide), lt_, if_gd (show 5 * c < 30 by omega) (by decide), lt_, lt_, tn_nI (show 5 * c + 4 < 2 ^ 31 by omega), tn_nI (show 5 * c < 2 ^ 31 by omega)]
    obtain ⟨M3, h3⟩ : ∃ M3, M3 = sw M2 27 5 (5 * c + 4) q := ⟨_, rfl⟩
    rw [← h3] at s1 s2 s3 Q2 ⊢
    refine ⟨_, rfl, ((Q1.tr Q2).tr (QM_0 (by omega))).tr (QM_0 (by omega)), ?_⟩
    rcases s3 with ⟨g1, g2, g3, g4⟩ | ⟨g1, g2⟩
    · left
      have ss := st_seat (hB.2.1 (6 * c + 2) (by omega))
      refine ⟨by omega, ?_, ?_, ?_, ?_, fun x hx => ?_⟩
      · rw [sw_same, upd_same, sw_same, upd_ne (by omega), s1, nI_add1]
      · rw [sw_same, upd_ne (by omega), sw_same, upd_same, s2, g4 (5 * c) (by omega)]
        unfold vF
        rw [show 5 * c / 5 = c by omega, show 5 * c % 5 = 0 by omega, Nat.add_zero, shl1 (by omega), nI_or]
        rfl
      · rw [sw_same, upd_ne (by omega), sw_same, upd_ne (by omega), g2, show 6 * c + 2 + (4 + 1) = 6 * (c + 1) + 1 by omega]
      · rw [sw_same, upd_ne (by omega), sw_same, upd_ne (by omega), g3]
      · rw [sw_ne (by omega), sw_ne (by omega)]
        exact g4 x (by omega)
    · right
      refine ⟨?_, by omega⟩
      rw [sw_same, upd_ne (by omega), sw_same, upd_ne (by omega), g2]
theorem m_readPart {M : Mem} {len b c : Nat} {tx : Nat → Nat} (hT : TxtX M len tx) (hB : Brk tx len b) (hR : RG M tx b c) (hl : 6 * c + 1 < len) : ∃ M', f_X10_readPart (nI (tx (6 * c + 1))) M = some M' ∧ QM M M' ∧ (RG M' tx b (c + 1) ∨ (M'.1 27 0 11 = nI b ∧ (b < len ∨ b < 6 * (c + 1) + 1 ∧ 6 * c + 1 < b))) := by
  obtain ⟨r1, r2, r3, r4, r5, r6⟩ := hR
  have b37 := Brk_37 hB
  have x1 := (hT.2.2.2 _ hl).1
  have kS : (nI (tx (6 * c + 1)) = 83) = (tx (6 * c + 1) = 83) := eq_nI (b := 83) (by omega) (by decide)
  have k6 : (nI c = 6) = (c = 6) := eq_nI (b := 6) (by omega) (by decide)
  unfold f_X10_readPart f_X10_readPart_15
  rw [r2]
  simp only [kS, k6]
  by_cases e : 6 * c + 1 < b
  · have hst := hB.2.1 _ e
    have hc : c < 6 := by omega
    rw [st_0 hc] at hst
    simp at hst
    rw [if_pos hst, if_neg (by omega), lt_, r4, nI_add1, show 6 * c + 1 + 1 = 6 * c + 2 from rfl]
    have tk := Brk_tk (j := c) hB (by omega)
    obtain ⟨M1, h1⟩ : ∃ M1, M1 = sw M 27 0 10 (nI (6 * c + 2)) := ⟨_, rfl⟩
    rw [← h1]
    have Q1 : QM M M1 := by rw [h1]; exact QM_0 (by omega)
    have m6 : M1.1 27 0 6 = nI c := by rw [h1, sw_same, upd_ne (by omega)]; exact r2
    have m7 : M1.1 27 0 7 = nI (tkF tx c) := by rw [h1, sw_same, upd_ne (by omega)]; exact r3
    have S1 : SG M1 tx b c 0 := ⟨m6, m7, Or.inl ⟨by omega, by rw [h1, sw_same, upd_same], by rw [h1, sw_same, upd_ne (by omega)]; exact r5, fun x hx => by rw [h1, sw_ne (by omega)]; exact r6 x (by omega)⟩⟩
    obtain ⟨q, M2, e2, Q2, S2⟩ := m_stage (mk := 255 ^^^ tkF tx c) (TxtX_m hT Q1) hB S1 (by omega) (Nat.lt_of_lt_of_le (Nat.xor_lt_two_pow (n := 8) (by decide) tk) (by decide)) (fun hl hb => by
      rw [Nat.add_zero, st_1 hc]
      constructor
      · intro h
        simp at h
        refine ⟨h.1.1, by omega, ?_⟩
        rw [mk255 (by omega) tk, h.2]
        simp
        omega
      · rintro ⟨h1, h2, h3⟩
        rw [mk255 (by omega) tk] at h3
        simp at h3
        simp [h1, h3.2]
        omega)
    obtain ⟨M3, e3, Q3, h3⟩ := m_rp63 (TxtX_m (TxtX_m hT Q1) Q2) hB hc S2
    refine ⟨M3, ?_, (Q1.tr Q2).tr Q3, h3.elim Or.inl (fun h => Or.inr ⟨h.1, Or.inr ⟨h.2, e⟩⟩)⟩
    rw [lt_, m6, m7, mask7 _ tk, e2, show (5 : Int32) * nI c = nI (5 * c) from pk_mul 5 c]
    simp only [Option.bind_some]
    rw [if_gd (show 5 * c < 30 by omega) (by decide), lt_, tn_nI (by omega)]
    exact e3
  · obtain rfl : b = 6 * c + 1 := by omega
    have hst := hB.2.2 hl
    refine ⟨sw M 27 0 11 (nI (6 * c + 1)), ?_, QM_0 (by omega), Or.inr ⟨by rw [sw_same, upd_same], Or.inl hl⟩⟩
    rw [lt_, r4]
    by_cases c6 : c = 6
    · rw [if_pos c6]
      split <;> rfl
    · rw [st_0 (by omega)] at hst
      simp at hst
      rw [if_neg hst]
theorem m_readText {M : Mem} {tx : Nat → Nat} {len b : Nat} (hT : TxtX M len tx) (hB : Brk tx len b) : ∃ M', f_X10_readText M = some (ansT len b, M') ∧ QM M M' ∧ (b = len ∧ 0 < len ∧ (len - 1) % 6 = 0 → M'.1 27 0 6 = nI ((len - 1) / 6) ∧ ∀ x, x < 5 * ((len - 1) / 6) → M'.1 27 5 x = nI (vF tx x)) := by
  have b37 := Brk_37 hB
  obtain ⟨M4, h4⟩ : ∃ M4, M4 = sw (sw (sw (sw M 27 0 10 0) 27 0 11 (-9)) 27 0 6 0) 27 0 7 0 := ⟨_, rfl⟩
  have Q4 : QM M M4 := by
    rw [h4]
    exact (((QM_0 (by omega)).tr (QM_0 (by omega))).tr (QM_0 (by omega))).tr (QM_0 (by omega))
  have T4 := TxtX_m hT Q4
  obtain ⟨t1, -, t3, t4⟩ := id T4
  have a7 : M4.1 27 0 7 = 0 := by rw [h4, sw_same, upd_same]
  have a6 : M4.1 27 0 6 = 0 := by rw [h4, sw_same, upd_ne (by omega), sw_same, upd_same]
  have a11 : M4.1 27 0 11 = -9 := by rw [h4, sw_same, upd_ne (by omega), sw_same, upd_ne (by omega), sw_same, upd_same]
  have top : f_X10_readText M = if nI len = 0 then some (0, M4) else if M4.1 27 6 0 = 67 then f_X10_readText_46 100 (sw M4 27 0 10 1) else some (0, M4) := by
    unfold f_X10_readText f_X10_readText_39
    rw [lt_, lt_, lt_, lt_, ← h4, t3, show (0 : Int32).toNatClampNeg = 0 from rfl, if_pos (show ¬ ((0 : Int32) < 0 ∨ 48 ≤ 0) by decide), lt_]
  rw [top]
  rcases Nat.eq_zero_or_pos len with l0 | l0
  · subst l0
    obtain rfl : b = 0 := by have := hB.1; omega
    exact ⟨M4, by rw [if_pos (show nI 0 = 0 from rfl)]; rfl, Q4, fun h => by omega⟩
  rw [if_neg (nI_ne0 l0 (by omega))]
  obtain ⟨x1, -, x3⟩ := t4 0 l0
  have kC : (nI (tx 0) = 67) = (tx 0 = 67) := eq_nI (b := 67) (by omega) (by decide)
  have s0 : stB tx 0 = decide (tx 0 = 67) := by unfold stB; rw [if_pos rfl]
  rw [x3]
  simp only [kC]
  rcases Nat.eq_zero_or_pos b with e0 | e0
  · subst e0
    have := hB.2.2 l0
    rw [s0] at this
    simp at this
    refine ⟨M4, ?_, Q4, fun h => by omega⟩
    rw [if_neg this]
    unfold ansT
    rw [if_neg (by omega)]
    rfl
  · have := hB.2.1 0 e0
    rw [s0] at this
    simp at this
    rw [if_pos this]
    have Q5 : QM M (sw M4 27 0 10 1) := Q4.tr (QM_0 (by omega))
    have R5 : RG (sw M4 27 0 10 1) tx b 0 := ⟨by omega, by rw [sw_same, upd_ne (by omega), a6]; rfl, by rw [sw_same, upd_ne (by omega), a7]; rfl, by rw [sw_same, upd_same]; rfl, by rw [sw_same, upd_ne (by omega), a11], fun x hx => absurd hx (by omega)⟩
    have fin : ∀ M1 : Mem, QM M M1 → M1.1 27 0 11 = nI b → ¬ (b = len ∧ 0 < len ∧ (len - 1) % 6 = 0) → ∀ f, ∃ M', f_X10_readText_46 (f + 1) M1 = some (ansT len b, M') ∧ QM M M' ∧ (b = len ∧ 0 < len ∧ (len - 1) % 6 = 0 → M'.1 27 0 6 = nI ((len - 1) / 6) ∧ ∀ x, x < 5 * ((len - 1) / 6) → M'.1 27 5 x = nI (vF tx x)) := by
      intro M1 Q1 h11 hne f
      refine ⟨M1, ?_, Q1, fun h => absurd h hne⟩
      rw [f_X10_readText_46, h11, if_neg (ne9 b (by omega))]
      unfold f_X10_readText_82 ansT
      rw [h11, if_neg hne]
    refine loopE (fun f c (M1 : Mem) => f_X10_readText_46 f M1) 7 (fun c M1 => QM M M1 ∧ (RG M1 tx b c ∨ (M1.1 27 0 11 = nI b ∧ ¬ (b = len ∧ 0 < len ∧ (len - 1) % 6 = 0)))) (fun r => ∃ M', r = some (ansT len b, M') ∧ QM M M' ∧ (b = len ∧ 0 < len ∧ (len - 1) % 6 = 0 → M'.1 27 0 6 = nI ((len - 1) / 6) ∧ ∀ x, x < 5 * ((len - 1) / 6) → M'.1 27 5 x = nI (vF tx x))) ?_ ?_ 7 0 (by omega) 100 _ (by omega) ⟨Q5, Or.inl R5⟩
    · rintro f c M1 hc ⟨Q1, h1⟩
      rcases h1 with h1 | ⟨h1, h2⟩
      · have T1 := TxtX_m hT Q1
        obtain ⟨r1, r2, r3, r4, r5, r6⟩ := id h1
        rcases Nat.lt_or_ge (6 * c + 1) len with cl | cl
        · left
          obtain ⟨M2, e2, Q2, h2⟩ := m_readPart T1 hB h1 cl
          refine ⟨M2, ?_, Q1.tr Q2, ?_⟩
          · show f_X10_readText_46 (f + 1) M1 = _
            rw [f_X10_readText_46, if_pos r5, T1.2.2.1, r4, if_neg (nI_ge cl (by have := T1.1; omega)), lt_, if_gd (show 6 * c + 1 < 48 by have := T1.1; omega) (by decide), tn_nI (by omega), (T1.2.2.2 _ cl).2.2, e2]
            rfl
          · rcases h2 with h2 | ⟨h2, h3⟩
            · exact Or.inl h2
            · exact Or.inr ⟨h2, by omega⟩
        · right
          show ∃ M', f_X10_readText_46 (f + 1) M1 = _ ∧ _
          have bl : b = len := by have := hB.1; omega
          have ll : len = 6 * c + 1 := by have := hB.1; omega
          refine ⟨M1, ?_, Q1, fun _ => ?_⟩
          · rw [f_X10_readText_46, if_pos r5, T1.2.2.1, r4, if_pos (nI_le cl (by omega))]
            unfold f_X10_readText_82 ansT
            rw [r5, if_pos ⟨bl, by omega, by omega⟩]
          · rw [show (len - 1) / 6 = c by omega]
            exact ⟨r2, r6⟩
      · right
        exact fin M1 Q1 h1 h2 f
    · rintro f M1 ⟨Q1, h1⟩
      rcases h1 with h1 | ⟨h1, h2⟩
      · have := h1.1
        omega
      · exact fin M1 Q1 h1 h2 f
theorem op_fault {M : Mem} (hI : Inv M) : ∃ r M2, f_X9_fault M = some r ∧ f_X10_fault M = some (r, M2) ∧ Inv M2 := by
  obtain ⟨-, -, ⟨len, tx, hT⟩, -⟩ := id hI
  have hT : TxtX M len tx := hT
  obtain ⟨b, hB⟩ := Brk_ex tx len
  obtain ⟨M2, e2, Q2, -⟩ := m_readText hT hB
  refine ⟨ansT len b, M2, ?_, ?_, Inv_m hI Q2⟩
  · unfold f_X9_fault
    rw [c_fault hT hB]
    rfl
  · unfold f_X10_fault
    rw [e2]
    rfl
