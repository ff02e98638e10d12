theorem m_choir43 {M : Mem} {tx : Nat → Nat} {n : Nat} (h0 : M.1 27 0 0 = nI n) (n6 : n ≤ 6) (h5 : ∀ x, x < 5 * n → M.1 27 5 x = nI (vF tx x)) (z18 : M.1 27 4 18 = 0) (z19 : M.1 27 4 19 = 0) : ∃ M', f_X10_choir_43 100 0 M = some (nI n, M') ∧ Alk (fun a b => a = 27 ∧ (b = 0 ∨ b = 1 ∨ b = 2 ∨ b = 3 ∨ b = 4 ∨ b = 13)) M M' ∧ (∀ k, k ≠ 14 → M'.1 27 0 k = M.1 27 0 k) ∧ M'.1 27 0 14 = 0 ∧ M'.1 27 13 0 = 0 ∧ M'.1 27 13 1 = 0 ∧ mR M' n (fv tx 1) (fv tx 2) (fv tx 4) ∧ mS M' 0 n (fv tx 0) (fv tx 3) (fv tx 1) 0 0 := by
  refine loopE (fun f i (M1 : Mem) => f_X10_choir_43 f (nI i) M1) n (fun i M1 => Alk (fun a b => a = 27 ∧ (b = 1 ∨ b = 2 ∨ b = 3 ∨ b = 4)) M M1 ∧ M1.1 27 4 18 = 0 ∧ M1.1 27 4 19 = 0 ∧ ∀ j, j < i → M1.1 27 4 j = nI (fv tx 0 j) ∧ M1.1 27 1 j = nI (fv tx 1 j) ∧ M1.1 27 2 j = nI (fv tx 2 j) ∧ M1.1 27 4 (6 + j) = nI (fv tx 3 j) ∧ M1.1 27 3 j = nI (fv tx 4 j) ∧ M1.1 27 4 (12 + j) = nI (fv tx 1 j)) (fun r => ∃ M', r = some (nI n, M') ∧ Alk (fun a b => a = 27 ∧ (b = 0 ∨ b = 1 ∨ b = 2 ∨ b = 3 ∨ b = 4 ∨ b = 13)) M M' ∧ (∀ k, k ≠ 14 → M'.1 27 0 k = M.1 27 0 k) ∧ M'.1 27 0 14 = 0 ∧ M'.1 27 13 0 = 0 ∧ M'.1 27 13 1 = 0 ∧ mR M' n (fv tx 1) (fv tx 2) (fv tx 4) ∧ mS M' 0 n (fv tx 0) (fv tx 3) (fv tx 1) 0 0) ?_ ?_ n 0 (by omega) 100 M (by omega) ⟨Alk.rf, z18, z19, fun j hj => absurd hj (by omega)⟩
  · rintro f i M1 hi ⟨A1, w18, w19, h1⟩
    left
    have hn : M1.1 27 0 0 = nI n := by rw [A1.1 27 0 (by omega)]; exact h0
    have val : ∀ k, k < 5 → M1.1 27 5 (5 * i + k) = nI (fv tx k i) := fun k hk => by rw [A1.1 27 5 (by omega), h5 _ (by omega), vF_fv hk]
    have s5 : ∀ (M : Mem) (b j : Nat) (x : Int32), b < 5 → (sw M 27 b j x).1 27 5 = M.1 27 5 := fun M b j x hb => sw_ne (by omega)
    have y0 : (5 : Int32) * nI i = nI (5 * i) := pk_mul 5 i
    have y1 : nI (5 * i) + 1 = nI (5 * i + 1) := nI_add1 _
    have y2 : nI (5 * i) + 2 = nI (5 * i + 2) := nI_add _ 2
    have y3 : nI (5 * i) + 3 = nI (5 * i + 3) := nI_add _ 3
    have y4 : nI (5 * i) + 4 = nI (5 * i + 4) := nI_add _ 4
    have y6 : (6 : Int32) + nI i = nI (6 + i) := nI_add 6 i
    have y12 : (12 : Int32) + nI i = nI (12 + i) := nI_add 12 i
    obtain ⟨Ma, ha⟩ : ∃ Ma, Ma = sw M1 27 4 i (nI (fv tx 0 i)) := ⟨_, rfl⟩
    obtain ⟨Mb, hb⟩ : ∃ Mb, Mb = sw Ma 27 1 i (nI (fv tx 1 i)) := ⟨_, rfl⟩
    obtain ⟨Mc, hc⟩ : ∃ Mc, Mc = sw Mb 27 2 i (nI (fv tx 2 i)) := ⟨_, rfl⟩
    obtain ⟨Md, hd⟩ : ∃ Md, Md = sw Mc 27 4 (6 + i) (nI (fv tx 3 i)) := ⟨_, rfl⟩
    obtain ⟨Me, he⟩ : ∃ Me, Me = sw Md 27 3 i (nI (fv tx 4 i)) := ⟨_, rfl⟩
    have a5 : Ma.1 27 5 = M1.1 27 5 := by rw [ha]; exact s5 _ _ _ _ (by omega)
    have b5 : Mb.1 27 5 = M1.1 27 5 := by rw [hb, s5 _ _ _ _ (by omega)]; exact a5
    have c5 : Mc.1 27 5 = M1.1 27 5 := by rw [hc, s5 _ _ _ _ (by omega)]; exact b5
    have d5 : Md.1 27 5 = M1.1 27 5 := by rw [hd, s5 _ _ _ _ (by omega)]; exact c5
    have e1 : Me.1 27 1 i = nI (fv tx 1 i) := by rw [he, sw_ne (by omega), hd, sw_ne (by omega), hc, sw_ne (by omega), hb, sw_same, upd_same]
    refine ⟨sw Me 27 4 (12 + i) (nI (fv tx 1 i)), ?_, ?_, ?_, ?_, fun j hj => ?_⟩
    · show f_X10_choir_43 (f + 1) (nI i) M1 = _
      rw [f_X10_choir_43, hn, if_neg (nI_ge hi (by omega)), lt_, y0, if_gd (show 5 * i < 30 by omega) (by decide), if_gd (show i < 40 by omega) (by decide), lt_, tn_nI (show i < 2 ^ 31 by omega), tn_nI (show 5 * i < 2 ^ 31 by omega), show M1.1 27 5 (5 * i) = nI (fv tx 0 i) from val 0 (by omega), ← ha]
      have gi : ¬ (nI i < 0 ∨ 6 ≤ i) := fun q => q.elim (nI_pos (by omega)) (by omega)
      rw [lt_, y1, if_gd (show 5 * i + 1 < 30 by omega) (by decide), if_pos gi, lt_, tn_nI (show 5 * i + 1 < 2 ^ 31 by omega), a5, val 1 (by omega), ← hb]
      rw [lt_, y2, if_gd (show 5 * i + 2 < 30 by omega) (by decide), if_pos gi, lt_, tn_nI (show 5 * i + 2 < 2 ^ 31 by omega), b5, val 2 (by omega), ← hc]
      rw [lt_, y3, if_gd (show 5 * i + 3 < 30 by omega) (by decide), lt_, y6, if_gd (show 6 + i < 40 by omega) (by decide), lt_, tn_nI (show 6 + i < 2 ^ 31 by omega), tn_nI (show 5 * i + 3 < 2 ^ 31 by omega), c5, val 3 (by omega), ← hd]
      rw [lt_, y4, if_gd (show 5 * i + 4 < 30 by omega) (by decide), if_pos gi, lt_, tn_nI (show 5 * i + 4 < 2 ^ 31 by omega), d5, val 4 (by omega), ← he]
      rw [if_pos gi, lt_, y12, if_gd (show 12 + i < 40 by omega) (by decide), lt_, tn_nI (show 12 + i < 2 ^ 31 by omega), e1, lt_, nI_add1]
    · rw [he, hd, hc, hb, ha]
      exact (((((A1.tr (Alk.sw (by omega))).tr (Alk.sw (by omega))).tr (Alk.sw (by omega))).tr (Alk.sw (by omega))).tr (Alk.sw (by omega))).tr (Alk.sw (by omega))
    · rw [sw_same, upd_ne (by omega), he, sw_ne (by omega), hd, sw_same, upd_ne (by omega), hc, sw_ne (by omega), hb, sw_ne (by omega), ha, sw_same, upd_ne (by omega)]; exact w18
    · rw [sw_same, upd_ne (by omega), he, sw_ne (by omega), hd, sw_same, upd_ne (by omega), hc, sw_ne (by omega), hb, sw_ne (by omega), ha, sw_same, upd_ne (by omega)]; exact w19
    · refine ⟨?_, ?_, ?_, ?_, ?_, ?_⟩
      · rw [sw_same, upd_ne (by omega), he, sw_ne (by omega), hd, sw_same, upd_ne (by omega), hc, sw_ne (by omega), hb, sw_ne (by omega), ha, sw_same]
        by_cases e : j = i
        · rw [e, upd_same]
        · rw [upd_ne e]; exact (h1 j (by omega)).1
      · rw [sw_ne (by omega), he, sw_ne (by omega), hd, sw_ne (by omega), hc, sw_ne (by omega), hb, sw_same, ha, sw_ne (by omega)]
        by_cases e : j = i
        · rw [e, upd_same]
        · rw [upd_ne e]; exact (h1 j (by omega)).2.1
      · rw [sw_ne (by omega), he, sw_ne (by omega), hd, sw_ne (by omega), hc, sw_same, hb, sw_ne (by omega), ha, sw_ne (by omega)]
        by_cases e : j = i
        · rw [e, upd_same]
        · rw [upd_ne e]; exact (h1 j (by omega)).2.2.1
      · rw [sw_same, upd_ne (by omega), he, sw_ne (by omega), hd, sw_same]
        by_cases e : j = i
        · rw [e, upd_same]
        · rw [upd_ne (by omega), hc, sw_ne (by omega), hb, sw_ne (by omega), ha, sw_same, upd_ne (by omega)]; exact (h1 j (by omega)).2.2.2.1
      · rw [sw_ne (by omega), he, sw_same, hd, sw_ne (by omega), hc, sw_ne (by omega), hb, sw_ne (by omega), ha, sw_ne (by omega)]
        by_cases e : j = i
        · rw [e, upd_same]
        · rw [upd_ne e]; exact (h1 j (by omega)).2.2.2.2.1
      · rw [sw_same]
        by_cases e : j = i
        · rw [e, upd_same]
        · rw [upd_ne (by omega), he, sw_ne (by omega), hd, sw_same, upd_ne (by omega), hc, sw_ne (by omega), hb, sw_ne (by omega), ha, sw_same, upd_ne (by omega)]; exact (h1 j (by omega)).2.2.2.2.2
  · rintro f M1 ⟨A1, w18, w19, h1⟩
    have hn : M1.1 27 0 0 = nI n := by rw [A1.1 27 0 (by omega)]; exact h0
    obtain ⟨M2, h2⟩ : ∃ M2, M2 = sw (sw (sw M1 27 0 14 0) 27 13 0 0) 27 13 1 0 := ⟨_, rfl⟩
    have A2 : Alk (fun a b => a = 27 ∧ (b = 0 ∨ b = 13)) M1 M2 := by
      rw [h2]
      exact ((Alk.sw (by omega)).tr (Alk.sw (by omega))).tr (Alk.sw (by omega))
    have o2 : ∀ k, k ≠ 14 → M2.1 27 0 k = M1.1 27 0 k := fun k hk => by rw [h2, sw_ne (by omega), sw_ne (by omega), sw_same, upd_ne hk]
    refine ⟨M2, ?_, (A1.wk (fun a b e => by omega)).tr (A2.wk (fun a b e => by omega)), fun k hk => by rw [o2 k hk, A1.1 27 0 (by omega)], ?_, ?_, ?_, ?_, ?_⟩
    · show f_X10_choir_43 (f + 1) (nI n) M1 = _
      rw [f_X10_choir_43, hn, if_pos (nI_le (Nat.le_refl n) (by omega)), lt_, if_pos (show ¬ ((0 : Int32) < 0 ∨ 2 ≤ (0 : Int32).toNatClampNeg) by decide), lt_, if_pos (show ¬ ((1 : Int32) < 0 ∨ 2 ≤ (1 : Int32).toNatClampNeg) by decide), lt_, show (0 : Int32).toNatClampNeg = 0 from rfl, show (1 : Int32).toNatClampNeg = 1 from rfl, ← h2, o2 0 (by omega), hn]
    · rw [h2, sw_ne (by omega), sw_ne (by omega), sw_same, upd_same]
    · rw [h2, sw_same, upd_ne (by omega), sw_same, upd_same]
    · rw [h2, sw_same, upd_same]
    · exact ⟨fun i hi => by rw [A2.1 27 1 (by omega)]; exact (h1 i hi).2.1, fun i hi => by rw [A2.1 27 2 (by omega)]; exact (h1 i hi).2.2.1, fun i hi => by rw [A2.1 27 3 (by omega)]; exact (h1 i hi).2.2.2.2.1, by rw [o2 0 (by omega)]; exact hn⟩
    · refine ⟨fun i hi => ?_, fun i hi => ?_, fun i hi => ?_, ?_, ?_⟩
      · rw [A2.1 27 4 (by omega), show 20 * 0 + i = i by omega]; exact (h1 i hi).1
      · rw [A2.1 27 4 (by omega), show 20 * 0 + 6 + i = 6 + i by omega]; exact (h1 i hi).2.2.2.1
      · rw [A2.1 27 4 (by omega), show 20 * 0 + 12 + i = 12 + i by omega]; exact (h1 i hi).2.2.2.2.2
      · rw [A2.1 27 4 (by omega)]; exact w18
      · rw [A2.1 27 4 (by omega)]; exact w19
theorem m_choir22 {M : Mem} : ∃ M', f_X10_choir_22 100 0 M = f_X10_choir_43 100 0 M' ∧ Alk (fun a b => a = 27 ∧ b = 4) M M' ∧ M'.1 27 4 18 = 0 ∧ M'.1 27 4 19 = 0 := by
  refine loopE (fun f i (M1 : Mem) => f_X10_choir_22 f (nI i) M1) 20 (fun i M1 => Alk (fun a b => a = 27 ∧ b = 4) M M1 ∧ ∀ j, j < i → M1.1 27 4 j = 0) (fun r => ∃ M', r = f_X10_choir_43 100 0 M' ∧ Alk (fun a b => a = 27 ∧ b = 4) M M' ∧ M'.1 27 4 18 = 0 ∧ M'.1 27 4 19 = 0) ?_ ?_ 20 0 (by omega) 100 M (by omega) ⟨Alk.rf, fun j hj => absurd hj (by omega)⟩
  · rintro f i M1 hi ⟨A1, h1⟩
    left
    refine ⟨sw M1 27 4 i 0, ?_, A1.tr (Alk.sw ⟨rfl, rfl⟩), fun j hj => ?_⟩
    · show f_X10_choir_22 (f + 1) (nI i) M1 = _
      rw [f_X10_choir_22, if_neg (show ¬ (20 : Int32) ≤ nI i from fun q => absurd ((nI_leI (a := 20) (by decide) (by omega)).mp q) (by omega)), if_gd (show i < 40 by omega) (by decide), lt_, lt_, tn_nI (by omega), nI_add1]
    · rw [sw_same]
      by_cases e : j = i
      · rw [e, upd_same]
      · rw [upd_ne e]; exact h1 j (by omega)
  · rintro f M1 ⟨A1, h1⟩
    refine ⟨M1, ?_, A1, h1 18 (by omega), h1 19 (by omega)⟩
    show f_X10_choir_22 (f + 1) (nI 20) M1 = _
    rw [f_X10_choir_22, if_pos (show (20 : Int32) ≤ nI 20 by decide)]
theorem op_choir : Op f_X9_choir f_X10_choir := by
  intro M hI
  obtain ⟨⟨n0, vo, ra, ki, se, go, no, he, ba, hN, ⟨nx, ac, r1, r2, r3, r4, r5, r6, r7⟩, ⟨fl, s1, s2, s3⟩⟩, hH, ⟨len, tx, hT⟩, hsd⟩ := id hI
  have hT : TxtX M len tx := hT
  obtain ⟨b, hB⟩ := Brk_ex tx len
  have b37 := Brk_37 hB
  have hc := c_fault hT hB
  have l48 := hT.1
  unfold f_X9_choir f_X10_choir
  rw [hc]
  simp only [Option.bind_some]
  by_cases hd : b = len ∧ 0 < len ∧ (len - 1) % 6 = 0
  · have eA : ansT len b = -9 := by unfold ansT; rw [if_pos hd]
    obtain ⟨rfl, l0, l6⟩ := id hd
    obtain ⟨n, hn⟩ : ∃ n, n = (b - 1) / 6 := ⟨_, rfl⟩
    have n6 : n ≤ 6 := by omega
    obtain ⟨M1, e1, A1, R1, S1⟩ := c_tell hT hB (show b = 6 * n + 1 by omega)
    obtain ⟨M2, h2⟩ : ∃ M2, M2 = sw (sw M1 21 0 2 0) 22 0 1 0 := ⟨_, rfl⟩
    have A2 : Alk (fun a b => (a = 21 ∧ b = 0) ∨ (a = 22 ∧ b = 0)) M1 M2 := by
      rw [h2]
      exact (Alk.sw (by omega)).tr (Alk.sw (by omega))
    have A12 : Alk (fun a b => (a = 0 ∧ b < 4) ∨ a = 19 ∨ (a = 21 ∧ b = 0) ∨ (a = 22 ∧ b = 0)) M M2 := (A1.wk (fun a b e => by omega)).tr (A2.wk (fun a b e => by omega))
    have T2 : TxtX M2 b tx := by
      unfold TxtX
      rw [A12.1 18 0 (by omega), A12.1 18 1 (by omega), A12.1 27 0 (by omega), A12.1 27 6 (by omega)]
      exact hT
    obtain ⟨M3, e3, Q3, h3⟩ := m_readText T2 hB
    obtain ⟨k6, k5⟩ := h3 hd
    rw [← hn] at k6 k5
    obtain ⟨M4, h4⟩ : ∃ M4, M4 = sw M3 27 0 0 (nI n) := ⟨_, rfl⟩
    have A4 : Alk (fun a b => a = 27 ∧ b = 0) M3 M4 := by rw [h4]; exact Alk.sw ⟨rfl, rfl⟩
    have o4 : ∀ k, k ≠ 0 → M4.1 27 0 k = M3.1 27 0 k := fun k hk => by rw [h4, sw_same, upd_ne hk]
    obtain ⟨M5, e5, A5, z18, z19⟩ := m_choir22 (M := M4)
    have z0 : M5.1 27 0 0 = nI n := by rw [A5.1 27 0 (by omega), h4, sw_same, upd_same]
    obtain ⟨M6, e6, A6, o6, g14, g0, g1, R6, S6⟩ := m_choir43 z0 n6 (fun x hx => by rw [A5.1 27 5 (by omega), A4.1 27 5 (by omega)]; exact k5 x hx) z18 z19
    -- what stays
    have cl : ∀ a b, a ≠ 27 → M6.1 a b = M2.1 a b := fun a b q => by rw [A6.1 a b (by omega), A5.1 a b (by omega), A4.1 a b (by omega), Q3.1 a b (by omega)]
    have ml : ∀ b, b = 6 ∨ b = 8 ∨ b = 10 ∨ b = 11 ∨ b = 12 ∨ b = 14 → M6.1 27 b = M.1 27 b := fun b q => by rw [A6.1 27 b (by omega), A5.1 27 b (by omega), A4.1 27 b (by omega), Q3.1 27 b (by omega), A12.1 27 b (by omega)]
    have m0 : ∀ k, k = 9 ∨ k = 12 ∨ k = 15 ∨ k = 18 → M6.1 27 0 k = M.1 27 0 k := fun k q => by rw [o6 k (by omega), A5.1 27 0 (by omega), o4 k (by omega), Q3.2.2.1 k (by omega), A12.1 27 0 (by omega)]
    have l6' : M6.2 = M.2 := by rw [A6.2, A5.2, A4.2, Q3.2.2.2, A12.2]
    have c21 : ∀ k, k ≠ 2 → M6.1 21 0 k = M.1 21 0 k := fun k hk => by rw [cl 21 0 (by omega), h2, sw_ne (by omega), sw_same, upd_ne hk, A1.1 21 0 (by omega)]
    have c21' : M6.1 21 0 2 = 0 := by rw [cl 21 0 (by omega), h2, sw_ne (by omega), sw_same, upd_same]
    have c22 : M6.1 22 0 1 = 0 := by rw [cl 22 0 (by omega), h2, sw_same, upd_same]
    have fo : ∀ i, i < n → _ := fun i hi => fv_ok (i := i) hB (by omega)
    have oR : okR n (fv tx 1) (fv tx 2) (fv tx 4) := ⟨n6, fun i hi => ⟨(fo i hi).2.1.2, (fo i hi).2.2.1.2, (fo i hi).2.2.2.2.2⟩⟩
    have ok : okS n (2 ^ n - 1) (fv tx 0) (fv tx 3) (fv tx 1) 0 := ⟨full_lt n, fun i hi => ⟨(fo i hi).1.2, by have := (fo i hi).2.2.2.1.2; omega, (fo i hi).2.1.2⟩, by decide⟩
    have R6c : cR M6 n (fv tx 1) (fv tx 2) (fv tx 4) := by
      have R2 := cR_alk R1 A2 (fun b e => by omega)
      unfold cR at *
      rw [cl 19 0 (by omega), cl 19 1 (by omega), cl 19 2 (by omega), cl 19 3 (by omega)]
      exact R2
    have S6c : cS M6 0 n (2 ^ n - 1) (fv tx 0) (fv tx 3) (fv tx 1) 0 0 := cS_eq (cS_alk S1 A2 (fun b _ e => by omega)) (fun b _ => cl 0 b (by omega))
    have T6 : mT M6 63 := by
      unfold mT
      rw [m0 12 (by omega)]
      exact hN.2.2.2.2.2.2
    refine ⟨nI n, M2, M6, ?_, ?_, ⟨n, fv tx 1, fv tx 2, fv tx 4, fv tx 0, fv tx 3, fv tx 1, 0, 0, ⟨oR, R6c, R6, ok, S6c, S6, T6⟩, ⟨nx, 0, r1, by omega, by rw [c21 1 (by omega)]; exact r3, c21', by rw [m0 15 (by omega)]; exact r5, g14, fun j hj q => absurd q (by omega)⟩, ⟨0, by omega, c22, fun i hi => ⟨?_, fun q => ?_⟩⟩⟩, ?_, ?_, by rw [l6']; exact hsd⟩
    · rw [if_pos eA, e1]
      simp only [Option.bind_some]
      unfold f_X0_forgetAll f_X6_forgetAll
      rw [lt_]
      simp only [Option.bind_some]
      rw [lt_, ← h2]
      simp only [Option.bind_some]
      rw [A2.1 19 0 (by omega), R1.2.2.2]
    · rw [e3]
      simp only [Option.bind_some]
      rw [if_pos eA, lt_, k6, ← h4, e5, e6]
    · rw [Nat.zero_testBit]
      rcases (show i = 0 ∨ i = 1 by omega) with rfl | rfl
      · exact g0
      · exact g1
    · rw [Nat.zero_testBit] at q; cases q
    · exact Hrd_eq hH (fun b => by rw [cl 23 b (by omega), A12.1 23 b (by omega)]) (fun b e => ml b (by omega)) (m0 18 (by omega))
    · exact Txt_eq ⟨b, tx, hT⟩ (fun b => by rw [cl 18 b (by omega), A12.1 18 b (by omega)]) (ml 6 (by omega)) (m0 9 (by omega))
  · have eA : ¬ ansT len b = -9 := by
      unfold ansT
      rw [if_neg hd]
      exact ne9 b (by omega)
    obtain ⟨M3, e3, Q3, -⟩ := m_readText hT hB
    refine ⟨-3, M, M3, by rw [if_neg eA], ?_, Inv_m hI Q3⟩
    rw [e3]
    simp only [Option.bind_some]
    rw [if_neg eA]
