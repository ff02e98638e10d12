theorem Core_eq {M M' : Mem} {n : Nat} {vo ra ki se go no : Nat → Nat} {he ba : Nat} (h : Core M n vo ra ki se go no he ba) (hC : ∀ a b, (a < 18 ∨ a = 19 ∨ a = 21 ∨ a = 22) → M'.1 a b = M.1 a b) (hM : ∀ b, (b = 1 ∨ b = 2 ∨ b = 3 ∨ b = 4 ∨ b = 8 ∨ b = 13 ∨ b = 14) → M'.1 27 b = M.1 27 b) (h0 : ∀ k, (k = 0 ∨ k = 12 ∨ k = 14 ∨ k = 15) → M'.1 27 0 k = M.1 27 0 k) : Core M' n vo ra ki se go no he ba := by
  obtain ⟨⟨h1, h2, h3, h4, h5, h6, h7⟩, ⟨nx, ac, r1, r2, r3, r4, r5, r6, r7⟩, ⟨fl, s1, s2, s3⟩⟩ := h
  refine ⟨⟨h1, ?_, ?_, h4, cS_eq h5 (fun b _ => hC 0 b (by omega)), mS_eq h6 (fun k _ => by rw [hM 4 (by omega)]) h1.1, ?_⟩, ⟨nx, ac, r1, r2, ?_, ?_, ?_, ?_, fun j hj hv => Slo_eq (r7 j hj hv) (fun x _ => hC _ _ (by omega)) (fun k _ => by rw [hM 8 (by omega)]) h1.1⟩, ⟨fl, s1, ?_, fun i hi => ⟨?_, fun hb => Slo_eq ((s3 i hi).2 hb) (fun x _ => hC _ _ (by omega)) (fun k _ => by rw [hM 14 (by omega)]) h1.1⟩⟩⟩
  · unfold cR; rw [hC 19 0 (by omega), hC 19 1 (by omega), hC 19 2 (by omega), hC 19 3 (by omega)]; exact h2
  · unfold mR; rw [hM 1 (by omega), hM 2 (by omega), hM 3 (by omega), h0 0 (by omega)]; exact h3
  · unfold mT; rw [h0 12 (by omega)]; exact h7
  · rw [hC 21 0 (by omega)]; exact r3
  · rw [hC 21 0 (by omega)]; exact r4
  · rw [h0 15 (by omega)]; exact r5
  · rw [h0 14 (by omega)]; exact r6
  · rw [hC 22 0 (by omega)]; exact s2
  · rw [hM 13 (by omega)]; exact (s3 i hi).1
theorem Hrd_eq {M M' : Mem} (h : Hrd M) (hC : ∀ b, M'.1 23 b = M.1 23 b) (hM : ∀ b, (b = 10 ∨ b = 11 ∨ b = 12) → M'.1 27 b = M.1 27 b) (h0 : M'.1 27 0 18 = M.1 27 0 18) : Hrd M' := by
  obtain ⟨hn, hs, ht, hv, q1, q2, q3, q4⟩ := h
  refine ⟨hn, hs, ht, hv, q1, by rw [hC]; exact q2, by rw [h0]; exact q3, fun i hi => ?_⟩
  rw [hC, hC, hC, hM 10 (by omega), hM 11 (by omega), hM 12 (by omega)]
  exact q4 i hi
theorem Txt_eq {M M' : Mem} (h : Txt M) (hC : ∀ b, M'.1 18 b = M.1 18 b) (hM : M'.1 27 6 = M.1 27 6) (h0 : M'.1 27 0 9 = M.1 27 0 9) : Txt M' := by
  obtain ⟨len, tx, t1, t2, t3, t4⟩ := h
  refine ⟨len, tx, t1, by rw [hC]; exact t2, by rw [h0]; exact t3, fun i hi => ?_⟩
  rw [hC, hM]
  exact t4 i hi
theorem upd_same {f : Nat → Int32} {k : Nat} {x : Int32} : upd f k x k = x := if_pos rfl
theorem upd_ne {f : Nat → Int32} {k j : Nat} {x : Int32} (h : j ≠ k) : upd f k x j = f j := if_neg h
/-- a number between two -/
def wi (lo hi : Int) (x : Int32) : Bool := decide (lo ≤ x.toInt) && decide (x.toInt ≤ hi)
theorem c_within {x lo hi : Int32} {M : Mem} : f_X9_isWithin x lo hi M = some (b2 (wi lo.toInt hi.toInt x)) := by
  unfold f_X9_isWithin f_X9_isWithin_14 f_X9_isWithin_15 wi
  have e1 : (x < lo) ↔ x.toInt < lo.toInt := Int32.lt_iff_toInt_lt
  have e2 : (hi < x) ↔ hi.toInt < x.toInt := Int32.lt_iff_toInt_lt
  by_cases h1 : x < lo
  · have : ¬ lo.toInt ≤ x.toInt := by have := e1.mp h1; omega
    rw [if_pos h1]; simp [this]; rfl
  · have g1 : lo.toInt ≤ x.toInt := by have : ¬ x.toInt < lo.toInt := fun q => h1 (e1.mpr q); omega
    rw [if_neg h1]
    by_cases h2 : hi < x
    · have : ¬ x.toInt ≤ hi.toInt := by have := e2.mp h2; omega
      rw [if_pos h2]; simp [this]; rfl
    · have g2 : x.toInt ≤ hi.toInt := by have : ¬ hi.toInt < x.toInt := fun q => h2 (e2.mpr q); omega
      rw [if_neg h2]; simp [g1, g2]; rfl
theorem m_within {x : Int32} {lo hi : Int64} {M : Mem} : f_X10_in x.toInt64 lo hi M = some (b2 (wi lo.toInt hi.toInt x)) := by
  rw [m_in, Int32.toInt_toInt64]
  rfl
theorem wi_true {lo hi : Nat} {x : Int32} (h : wi lo hi x = true) (hh : hi < 2 ^ 31) : ∃ k : Nat, x = nI k ∧ lo ≤ k ∧ k ≤ hi := by
  unfold wi at h
  simp at h
  have h0 : ¬ x < 0 := fun q => by have := Int32.lt_iff_toInt_lt.mp q; have e : (0 : Int32).toInt = 0 := rfl; omega
  obtain ⟨j, hj, rfl⟩ := nI_of h0
  rw [nI_toInt hj] at h
  exact ⟨j, rfl, by omega, by omega⟩
theorem c_isSinger {M : Mem} {n : Nat} {x : Int32} (h : M.1 0 0 5 = nI (2 ^ n - 1)) (hn : n ≤ 6) : f_X7_isThere 0 x M = some (b2 (isS n x)) := by
  have h64 : 2 ^ n - 1 < 64 := Nat.lt_of_lt_of_le (full_lt n) (two6 hn)
  by_cases hx : x < 0
  · rw [c_isThereNeg hx]
    have : isS n x = false := by
      unfold isS
      have := Int32.lt_iff_toInt_lt.mp hx
      have e : (0 : Int32).toInt = 0 := rfl
      have : ¬ 0 ≤ x.toInt := by omega
      simp [this]
    rw [this]; rfl
  · obtain ⟨j, hj, rfl⟩ := nI_of hx
    rw [c_isThere h h64 hj, isS_nI hj, tb_full]
theorem Op_of {fc fm : Mem → Option (Int32 × Mem)} (h : ∀ M, Inv M → ∃ r M1 M2, fc M = some (r, M1) ∧ fm M1 = some (r, M2) ∧ Inv M2) : Op fc fm := h
/-! letters -/
theorem op_write (v : Int32) : Op (f_X9_write v) (f_X10_write v) := by
  intro M hI
  obtain ⟨⟨n, vo, ra, ki, se, go, no, he, ba, hC⟩, hH, ⟨len, tx, t1, t2, t3, t4⟩, hsd⟩ := id hI
  have hw : ∀ M1, f_X10_in v.toInt64 0 255 M1 = some (b2 (wi 0 255 v)) := fun M1 => m_within
  have e1 : (v < 0) ↔ v.toInt < 0 := Int32.lt_iff_toInt_lt
  have e2 : (v ≤ 255) ↔ v.toInt ≤ 255 := Int32.le_iff_toInt_le
  by_cases hv : wi 0 255 v = true
  · obtain ⟨k, rfl, -, hk⟩ := wi_true (lo := 0) (hi := 255) hv (by decide)
    have n0 : ¬ nI k < 0 := nI_pos (by omega)
    have n1 : nI k ≤ 255 := nI_le (b := 255) hk (by decide)
    by_cases hl : len = 48
    · refine ⟨-4, M, M, ?_, ?_, hI⟩
      · unfold f_X9_write f_X9_write_37 f_X5_put f_X5_put_19
        rw [if_neg n0, if_pos n1, t2, if_neg (nI_pos (by omega)), if_neg (show ¬ nI len < 48 from nI_nlt (b := 48) (by omega) (by omega))]
        rfl
      · unfold f_X10_write
        rw [hw, hv, t3, hl]
        rfl
    · have hA1 : Alk (fun a b => a = 18) M (sw (sw M 18 1 len (nI k)) 18 0 1 (nI (len + 1))) := (Alk.sw (by rfl)).tr (Alk.sw (by rfl))
      refine ⟨nI (len + 1), sw (sw M 18 1 len (nI k)) 18 0 1 (nI (len + 1)), sw (sw (sw (sw M 18 1 len (nI k)) 18 0 1 (nI (len + 1))) 27 6 len (nI k)) 27 0 9 (nI (len + 1)), ?_, ?_, ?_⟩
      · unfold f_X9_write f_X9_write_37 f_X5_put
        simp only [lt_]
        rw [if_neg n0, if_pos n1, t2, if_neg (nI_pos (by omega)), if_pos (show nI len < 48 from nI_lt (b := 48) (by omega) (by decide)), if_gd (show len < 48 by omega) (by decide), tn_nI (by omega)]
        simp only [Option.bind_some]
        rw [if_neg (show ¬ (1 : Int32) = 0 by decide), sw_ne (M := M) (a := 18) (b := 0) (by omega), t2, nI_add1]
        simp only [sw_same, upd_same]
      · unfold f_X10_write
        simp only [lt_]
        rw [hw, hv]
        have t3' : (sw (sw M 18 1 len (nI k)) 18 0 1 (nI (len + 1))).1 27 0 9 = nI len := by rw [hA1.1 27 0 (by omega)]; exact t3
        simp only [Option.bind_some, sw_ne (show ¬ (27 = 27 ∧ 0 = 6) by decide), t3', nI_add1, if_gd (show len < 48 by omega) (show 48 < 2 ^ 31 by decide)]
        rw [if_neg (show ¬ b2 true = 0 by decide), if_neg (show ¬ nI len = 48 from fun q => hl ((nI_eq (b := 48) (by omega) (by decide)).mp q)), tn_nI (by omega)]
        simp only [sw_same, upd_same]
      · have hA2 : Alk (fun a b => a = 18 ∨ (a = 27 ∧ (b = 6 ∨ b = 0))) M (sw (sw (sw (sw M 18 1 len (nI k)) 18 0 1 (nI (len + 1))) 27 6 len (nI k)) 27 0 9 (nI (len + 1))) := ((hA1.wk (fun a b e => Or.inl e)).tr (Alk.sw (by omega))).tr (Alk.sw (by omega))
        have h0 : ∀ j, j ≠ 9 → (sw (sw (sw (sw M 18 1 len (nI k)) 18 0 1 (nI (len + 1))) 27 6 len (nI k)) 27 0 9 (nI (len + 1))).1 27 0 j = M.1 27 0 j := fun j hj => by
          rw [sw_same, upd_ne hj, sw_ne (by omega), hA1.1 27 0 (by omega)]
        refine ⟨⟨n, vo, ra, ki, se, go, no, he, ba, Core_eq hC (fun a b e => hA2.1 a b (by omega)) (fun b e => hA2.1 27 b (by omega)) (fun j e => h0 j (by omega))⟩, Hrd_eq hH (fun b => hA2.1 23 b (by omega)) (fun b e => hA2.1 27 b (by omega)) (h0 18 (by omega)), ⟨len + 1, fun i => if i = len then k else tx i, by omega, ?_, ?_, fun i hi => ?_⟩, by rw [hA2.2]; exact hsd⟩
        · rw [sw_ne (by omega), sw_ne (by omega), sw_same, upd_same]
        · rw [sw_same, upd_same]
        · rw [sw_ne (a := 18) (b := 1) (by omega), sw_ne (a := 18) (b := 1) (by omega), sw_ne (a := 18) (b := 1) (by omega), sw_same, sw_ne (a := 27) (b := 6) (by omega), sw_same, hA1.1 27 6 (by omega)]
          unfold upd
          by_cases e : i = len
          · simp [e]; omega
          · simp only [if_neg e]; exact t4 i (by omega)
  · refine ⟨-2, M, M, ?_, ?_, hI⟩
    · unfold f_X9_write f_X9_write_11
      unfold wi at hv
      simp at hv
      by_cases h1 : v < 0
      · rw [if_pos h1]
      · rw [if_neg h1, if_neg (fun q => by have := e2.mp q; have : ¬ v.toInt < 0 := fun z => h1 (e1.mpr z); omega)]
    · unfold f_X10_write
      rw [hw]
      simp only [Bool.not_eq_true] at hv
      rw [hv]
      rfl
theorem op_wipe : Op f_X9_wipe f_X10_wipe := by
  intro M hI
  obtain ⟨⟨n, vo, ra, ki, se, go, no, he, ba, hC⟩, hH, ⟨len, tx, t1, t2, t3, t4⟩, hsd⟩ := id hI
  refine ⟨nI len, sw M 18 0 1 0, sw (sw M 18 0 1 0) 27 0 9 0, ?_, ?_, ?_⟩
  · unfold f_X9_wipe lt_; rw [t2]
  · unfold f_X10_wipe lt_; rw [sw_ne (by omega), t3]
  · have hA : Alk (fun a b => (a = 18 ∨ a = 27) ∧ b = 0) M (sw (sw M 18 0 1 0) 27 0 9 0) := (Alk.sw (by omega)).tr (Alk.sw (by omega))
    have h0 : ∀ j, j ≠ 9 → (sw (sw M 18 0 1 0) 27 0 9 0).1 27 0 j = M.1 27 0 j := fun j hj => by rw [sw_same, upd_ne hj, sw_ne (by omega)]
    refine ⟨⟨n, vo, ra, ki, se, go, no, he, ba, Core_eq hC (fun a b e => hA.1 a b (by omega)) (fun b e => hA.1 27 b (by omega)) (fun j e => h0 j (by omega))⟩, Hrd_eq hH (fun b => hA.1 23 b (by omega)) (fun b e => hA.1 27 b (by omega)) (h0 18 (by omega)), ⟨0, tx, by omega, ?_, ?_, fun i hi => by omega⟩, by rw [hA.2]; exact hsd⟩
    · rw [sw_ne (by omega), sw_same, upd_same]; rfl
    · rw [sw_same, upd_same]; rfl
theorem op_unhear : Op f_X9_unhear f_X10_unhear := by
  intro M hI
  obtain ⟨⟨n, vo, ra, ki, se, go, no, he, ba, hC⟩, ⟨hn, hs, ht, hv, q1, q2, q3, q4⟩, hT, hsd⟩ := id hI
  refine ⟨nI hn, sw M 23 0 3 0, sw (sw M 23 0 3 0) 27 0 18 0, ?_, ?_, ?_⟩
  · unfold f_X9_unhear lt_; rw [q2]
  · unfold f_X10_unhear lt_; rw [sw_ne (by omega), q3]
  · have hA : Alk (fun a b => (a = 23 ∨ a = 27) ∧ b = 0) M (sw (sw M 23 0 3 0) 27 0 18 0) := (Alk.sw (by omega)).tr (Alk.sw (by omega))
    have h0 : ∀ j, j ≠ 18 → (sw (sw M 23 0 3 0) 27 0 18 0).1 27 0 j = M.1 27 0 j := fun j hj => by rw [sw_same, upd_ne hj, sw_ne (by omega)]
    refine ⟨⟨n, vo, ra, ki, se, go, no, he, ba, Core_eq hC (fun a b e => hA.1 a b (by omega)) (fun b e => hA.1 27 b (by omega)) (fun j e => h0 j (by omega))⟩, ⟨0, hs, ht, hv, by omega, ?_, ?_, fun i hi => by omega⟩, Txt_eq hT (fun b => hA.1 18 b (by omega)) (hA.1 27 6 (by omega)) (h0 9 (by omega)), by rw [hA.2]; exact hsd⟩
    · rw [sw_ne (by omega), sw_same, upd_same]; rfl
    · rw [sw_same, upd_same]; rfl
theorem op_seed (v : Int64) : ∀ M, Inv M → ∃ r M1 M2, f_X9_seed v M = some (r, M1) ∧ f_X10_seed v M1 = some (r, M2) ∧ Inv M2 := by
  intro M hI
  obtain ⟨⟨n, vo, ra, ki, se, go, no, he, ba, hC⟩, hH, hT, hsd⟩ := id hI
  refine ⟨M.2 26, sl M 26 v, sl (sl M 26 v) 27 v, rfl, ?_, ⟨n, vo, ra, ki, se, go, no, he, ba, Core_eq hC (fun _ _ _ => rfl) (fun _ _ => rfl) (fun _ _ => rfl)⟩, Hrd_eq hH (fun _ => rfl) (fun _ _ => rfl) rfl, Txt_eq hT (fun _ => rfl) rfl rfl, ?_⟩
  · unfold f_X10_seed lt_
    rw [show (sl M 26 v).2 27 = M.2 27 from rfl, ← hsd]
  · rfl
theorem op_hear (v1 v2 v3 : Int32) : Op (f_X9_hear v1 v2 v3) (f_X10_hear v1 v2 v3) := by
  intro M hI
  obtain ⟨⟨n, vo, ra, ki, se, go, no, he, ba, hC⟩, ⟨hn, hs, ht, hv, q1, q2, q3, q4⟩, hT, hsd⟩ := id hI
  obtain ⟨oR, -, hmR, -, hcS, -, -⟩ := id hC.1
  have w2 : ∀ M1, f_X10_in v2.toInt64 0 9 M1 = some (b2 (wi 0 9 v2)) := fun M1 => m_within
  have w3 : ∀ M1, f_X10_in v3.toInt64 0 9 M1 = some (b2 (wi 0 9 v3)) := fun M1 => m_within
  have c2 : ∀ M1, f_X9_isWithin v2 0 9 M1 = some (b2 (wi 0 9 v2)) := fun M1 => c_within
  have c3 : ∀ M1, f_X9_isWithin v3 0 9 M1 = some (b2 (wi 0 9 v3)) := fun M1 => c_within
  unfold f_X9_hear f_X9_hear_33 f_X9_hear_61 f_X10_hear f_X10_hear_34
  rw [c_isSinger hcS.2.2.2.1 oR.1, c2, c3]
  simp only [Option.bind_some, if_b2, w2, w3]
  by_cases h1 : isS n v1 = true
  · rw [if_pos h1]
    by_cases h2 : wi 0 9 v2 = true
    · rw [if_pos h2]
      by_cases h3 : wi 0 9 v3 = true
      · rw [if_pos h3]
        obtain ⟨a, ha, rfl⟩ := isS_true oR.1 h1
        obtain ⟨b, rfl, -, hb⟩ := wi_true (lo := 0) (hi := 9) h2 (by decide)
        obtain ⟨d, rfl, -, hd⟩ := wi_true (lo := 0) (hi := 9) h3 (by decide)
        have hN := oR.1
        by_cases h6 : hn = 6
        · refine ⟨-4, M, M, ?_, ?_, hI⟩
          · unfold f_X3_put f_X3_put_16
            rw [q2, h6, if_neg (show ¬ nI 6 < 0 by decide), if_neg (show ¬ nI 6 < 6 by decide)]
            rfl
          · rw [m_isSinger hmR.2.2.2 hN]
            simp only [Option.bind_some, if_b2]
            rw [if_pos h1, if_pos h2, if_pos h3, q3, h6]
            rfl
        · obtain ⟨M1, hM1⟩ : ∃ M1, M1 = sw (sw (sw (sw M 23 1 hn (nI a)) 23 2 hn (nI b)) 23 3 hn (nI d)) 23 0 3 (nI (hn + 1)) := ⟨_, rfl⟩
          have hA1 : Alk (fun x y => x = 23) M M1 := by rw [hM1]; exact (((Alk.sw (by rfl)).tr (Alk.sw (by rfl))).tr (Alk.sw (by rfl))).tr (Alk.sw (by rfl))
          obtain ⟨M2, hM2⟩ : ∃ M2, M2 = sw (sw (sw (sw M1 27 10 hn (nI a)) 27 11 hn (nI b)) 27 12 hn (nI d)) 27 0 18 (nI (hn + 1)) := ⟨_, rfl⟩
          refine ⟨nI (hn + 1), M1, M2, ?_, ?_, ?_⟩
          · unfold f_X3_put
            simp only [lt_]
            rw [q2, if_neg (nI_pos (by omega)), if_pos (show nI hn < 6 from nI_lt (b := 6) (by omega) (by decide))]
            simp only [if_gd (show hn < 6 by omega) (show 6 < 2 ^ 31 by decide), sw_ne (show ¬ (23 = 23 ∧ 0 = 1) by decide), sw_ne (show ¬ (23 = 23 ∧ 0 = 2) by decide), sw_ne (show ¬ (23 = 23 ∧ 0 = 3) by decide), q2, nI_add1]
            rw [tn_nI (by omega), ← hM1]
            simp only [Option.bind_some]
            rw [if_neg (show ¬ (1 : Int32) = 0 by decide)]
            have : M1.1 23 0 3 = nI (hn + 1) := by rw [hM1, sw_same, upd_same]
            rw [this]
          · rw [m_isSinger (by rw [hA1.1 27 0 (by omega)]; exact hmR.2.2.2) hN]
            simp only [Option.bind_some, if_b2]
            rw [if_pos h1, if_pos h2, if_pos h3]
            simp only [lt_]
            have q3' : M1.1 27 0 18 = nI hn := by rw [hA1.1 27 0 (by omega)]; exact q3
            simp only [sw_ne (show ¬ (27 = 27 ∧ 0 = 10) by decide), sw_ne (show ¬ (27 = 27 ∧ 0 = 11) by decide), sw_ne (show ¬ (27 = 27 ∧ 0 = 12) by decide), q3', if_gd (show hn < 6 by omega) (show 6 < 2 ^ 31 by decide), nI_add1]
            rw [if_neg (show ¬ nI hn = 6 from fun q => h6 ((nI_eq (b := 6) (by omega) (by decide)).mp q)), tn_nI (by omega), ← hM2]
            have : M2.1 27 0 18 = nI (hn + 1) := by rw [hM2, sw_same, upd_same]
            rw [this]
          · have hA2 : Alk (fun x y => x = 23 ∨ (x = 27 ∧ (y = 10 ∨ y = 11 ∨ y = 12 ∨ y = 0))) M M2 := (hA1.wk (fun a b e => Or.inl e)).tr (by rw [hM2]; exact (((Alk.sw (by omega)).tr (Alk.sw (by omega))).tr (Alk.sw (by omega))).tr (Alk.sw (by omega)))
            have h0 : ∀ j, j ≠ 18 → M2.1 27 0 j = M.1 27 0 j := fun j hj => by rw [hM2, sw_same, upd_ne hj, sw_ne (by omega), sw_ne (by omega), sw_ne (by omega), hA1.1 27 0 (by omega)]
            have hA3 : Alk (fun x y => x = 27) M1 M2 := by rw [hM2]; exact (((Alk.sw (by rfl)).tr (Alk.sw (by rfl))).tr (Alk.sw (by rfl))).tr (Alk.sw (by rfl))
            refine ⟨⟨n, vo, ra, ki, se, go, no, he, ba, Core_eq hC (fun a b e => hA2.1 a b (by omega)) (fun b e => hA2.1 27 b (by omega)) (fun j e => h0 j (by omega))⟩, ⟨hn + 1, fun i => if i = hn then a else hs i, fun i => if i = hn then b else ht i, fun i => if i = hn then d else hv i, by omega, ?_, ?_, fun i hi => ?_⟩, Txt_eq hT (fun b => hA2.1 18 b (by omega)) (hA2.1 27 6 (by omega)) (h0 9 (by omega)), by rw [hA2.2]; exact hsd⟩
            · rw [hA3.1 23 0 (by omega), hM1, sw_same, upd_same]
            · rw [hM2, sw_same, upd_same]
            · have g1 : M2.1 23 1 = upd (M.1 23 1) hn (nI a) := by rw [hA3.1 23 1 (by omega), hM1, sw_ne (by omega), sw_ne (by omega), sw_ne (by omega), sw_same]
              have g2 : M2.1 23 2 = upd (M.1 23 2) hn (nI b) := by rw [hA3.1 23 2 (by omega), hM1, sw_ne (by omega), sw_ne (by omega), sw_same, sw_ne (by omega)]
              have g3 : M2.1 23 3 = upd (M.1 23 3) hn (nI d) := by rw [hA3.1 23 3 (by omega), hM1, sw_ne (by omega), sw_same, sw_ne (by omega), sw_ne (by omega)]
              have g4 : M2.1 27 10 = upd (M.1 27 10) hn (nI a) := by rw [hM2, sw_ne (by omega), sw_ne (by omega), sw_ne (by omega), sw_same, hA1.1 27 10 (by omega)]
              have g5 : M2.1 27 11 = upd (M.1 27 11) hn (nI b) := by rw [hM2, sw_ne (by omega), sw_ne (by omega), sw_same, sw_ne (by omega), hA1.1 27 11 (by omega)]
              have g6 : M2.1 27 12 = upd (M.1 27 12) hn (nI d) := by rw [hM2, sw_ne (by omega), sw_same, sw_ne (by omega), sw_ne (by omega), hA1.1 27 12 (by omega)]
              rw [g1, g2, g3, g4, g5, g6]
              unfold upd
              by_cases e : i = hn
              · simp [e]; omega
              · simp only [if_neg e]; exact q4 i (by omega)
      · refine ⟨-2, M, M, by rw [if_neg h3], ?_, hI⟩
        rw [m_isSinger hmR.2.2.2 oR.1]
        simp only [Option.bind_some, if_b2]
        rw [if_pos h1, if_pos h2, if_neg h3]
    · refine ⟨-2, M, M, by rw [if_neg h2], ?_, hI⟩
      rw [m_isSinger hmR.2.2.2 oR.1]
      simp only [Option.bind_some, if_b2]
      rw [if_pos h1, if_neg h2]
  · refine ⟨-1, M, M, by rw [if_neg h1], ?_, hI⟩
    rw [m_isSinger hmR.2.2.2 oR.1]
    simp only [Option.bind_some, if_b2]
    rw [if_neg h1]
