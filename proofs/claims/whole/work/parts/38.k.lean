/-! years by a seed -/
def evN (x : Int64) : Nat := (x.toUInt64 >>> ((33 : Int32).toInt64.toUInt64 &&& Int64.toUInt64 63)).toNat % 28
theorem ev_eq (x : Int64) : ((x.toUInt64 >>> ((33 : Int32).toInt64.toUInt64 &&& Int64.toUInt64 63)).toInt64 - (x.toUInt64 >>> ((33 : Int32).toInt64.toUInt64 &&& Int64.toUInt64 63)).toInt64 / 28 * 28).toInt32 = nI (evN x) := by
  unfold evN
  have hb : ((33 : Int32).toInt64.toUInt64 &&& Int64.toUInt64 63).toNat % 64 = 33 := by decide
  obtain ⟨u, hu⟩ : ∃ u, u = x.toUInt64 >>> ((33 : Int32).toInt64.toUInt64 &&& Int64.toUInt64 63) := ⟨_, rfl⟩
  have hlt : u.toNat < 2 ^ 31 := by
    rw [hu, UInt64.toNat_shiftRight, hb, Nat.shiftRight_eq_div_pow]
    have := x.toUInt64.toNat_lt
    omega
  rw [← hu]
  have e : u.toInt64 = lN u.toNat := by
    conv => lhs; rw [← UInt64.ofNat_toNat (x := u)]
    rfl
  rw [e, show lN u.toNat - lN u.toNat / 28 * 28 = lN (u.toNat % 28) from pk_lRem (b := 28) (by omega) (by decide) (by decide), lN_i]
theorem evN_lt (x : Int64) : evN x < 28 := Nat.mod_lt _ (by decide)
def sdF (x : Int64) : Nat → Int64
  | 0 => x
  | k + 1 => sdF x k * (6364136223846793005 : Int64) + (1442695040888963407 : Int64)
theorem sdF_succ (x : Int64) (k : Nat) : sdF x (k + 1) = sdF x k * (6364136223846793005 : Int64) + (1442695040888963407 : Int64) := by rw [sdF]
theorem sl_at {M : Mem} {o : Nat} {x : Int64} : (sl M o x).2 o = x := if_pos rfl
theorem sl_ne {M : Mem} {o a : Nat} {x : Int64} (h : a ≠ o) : (sl M o x).2 a = M.2 a := if_neg h
def stepY (n : Nat) (vo ra ki : Nat → Nat) (p : St × Nat) (e : Nat) : St × Nat :=
  if e < 6 then if e < n then ((p.1.1, giveF p.1.2.1 e 1, p.1.2.2), p.2) else p
  else if e < 12 then if e - 6 < n then (p.1, p.2 ^^^ 2 ^ (e - 6)) else p
  else if e < 17 then if e - 11 < n then ((swF p.1.1 (e - 12) (e - 11), p.1.2.1, p.1.2.2), p.2) else p
  else if e = 17 then ((p.1.1, p.1.2.1, vo), p.2)
  else ((p.1.1, p.1.2.1, stp n (2 ^ n - 1) vo ra ki p.1.1 p.1.2.1 p.1.2.2 p.2), p.2)
theorem okD_stepY {n : Nat} {vo ra ki : Nat → Nat} {p : St × Nat} {e : Nat} (oR : okR n vo ra ki) (ok : okD n p.2 p.1) : okD n (stepY n vo ra ki p e).2 (stepY n vo ra ki p e).1 := by
  unfold stepY
  split
  · split
    · exact okS_give ok
    · exact ok
  · split
    · split
      · exact ⟨ok.1, ok.2.1, xor_lt ok.2.2 (by omega)⟩
      · exact ok
    · split
      · split
        · exact okS_swap ok (by omega) (by omega)
        · exact ok
      · split
        · exact ⟨ok.1, fun i hi => ⟨(ok.2.1 i hi).1, (ok.2.1 i hi).2.1, (oR.2 i hi).1⟩, ok.2.2⟩
        · exact okS_itr oR ok 1
theorem k28 {a : Nat} (ha : a < 28) (k : Nat) (hk : k < 28) {x : Int32} (hx : x = nI k) : (x ≤ nI a) = (k ≤ a) := by
  rw [hx]; exact le_nI (by omega) (by omega)
theorem k28' {a : Nat} (ha : a < 28) (k : Nat) (hk : k < 28) {x : Int32} (hx : x = nI k) : (nI a ≤ x) = (a ≤ k) := by
  rw [hx]; exact le_nI (by omega) (by omega)
theorem c_happenY {M : Mem} {n : Nat} {vo ra ki : Nat → Nat} {ba : Nat} {p : St × Nat} {e : Nat} (hR : cR M n vo ra ki) (oR : okR n vo ra ki) (h : cS M 1 n (2 ^ n - 1) p.1.1 p.1.2.1 p.1.2.2 p.2 ba) (ok : okD n p.2 p.1) (he : e < 28) : ∃ M', f_X8_happen (nI e) M = some M' ∧ Alk PC M M' ∧ cS M' 1 n (2 ^ n - 1) (stepY n vo ra ki p e).1.1 (stepY n vo ra ki p e).1.2.1 (stepY n vo ra ki p e).1.2.2 (stepY n vo ra ki p e).2 ba := by
  have hn := oR.1
  have ht : 2 ^ n - 1 < 64 := Nat.lt_of_lt_of_le (full_lt n) (two6 hn)
  have a6 := k28 he 6 (by decide) (x := 6) rfl
  have a12 := k28 he 12 (by decide) (x := 12) rfl
  have a17 := k28 he 17 (by decide) (x := 17) rfl
  have b17 : (nI e = 17) = (e = 17) := eq_nI (b := 17) (by omega) (by decide)
  unfold f_X8_happen f_X8_happen_139
  simp only [a6, a12, a17, b17]
  unfold stepY
  by_cases h6 : e < 6
  · rw [if_neg (by omega), if_pos h6, c_isThere h.2.2.2.1 ht (by omega), tb_full]
    simp only [Option.bind_some, if_b2]
    by_cases c : e < n
    · rw [if_pos (by simpa using c), if_pos c]
      obtain ⟨M', e, A, S, -⟩ := c_giveQ (k := 1) h hR hn c (ok.2.1 e c).2.1 (by decide)
      exact ⟨M', by rw [show f_X7_give 1 (nI _) 1 M = some M' from e]; rfl, A, S⟩
    · rw [if_neg (by simpa using c), if_neg c]
      exact ⟨M, rfl, Alk.rf, h⟩
  rw [if_pos (by omega), if_neg h6]
  by_cases h12 : e < 12
  · rw [if_neg (by omega), if_pos h12, show nI e - 6 = nI (e - 6) from pk_sub (b := 6) (by omega), c_isThere h.2.2.2.1 ht (by omega), tb_full]
    simp only [Option.bind_some, if_b2]
    by_cases c : e - 6 < n
    · rw [if_pos (by simpa using c), if_pos c]
      obtain ⟨M', e, A, S⟩ := c_turn (s := e - 6) h (by omega)
      exact ⟨M', by rw [e]; rfl, A.wk (fun a b e => Or.inl e.1), S⟩
    · rw [if_neg (by simpa using c), if_neg c]
      exact ⟨M, rfl, Alk.rf, h⟩
  rw [if_pos (by omega), if_neg h12]
  by_cases h17 : e < 17
  · rw [if_neg (by omega), if_pos h17, show nI e - 12 = nI (e - 12) from pk_sub (b := 12) (by omega), show nI e - 11 = nI (e - 11) from pk_sub (b := 11) (by omega), c_isThere h.2.2.2.1 ht (by omega), c_isThere h.2.2.2.1 ht (by omega), tb_full, tb_full]
    simp only [Option.bind_some, if_b2]
    by_cases c : e - 11 < n
    · have c2 : e - 12 < n := by omega
      rw [if_pos (by simpa using c2), if_pos (by simpa using c), if_pos c]
      obtain ⟨M', e, A, S, -⟩ := c_swapQ h hR hn c2 c
      exact ⟨M', by rw [e]; rfl, A, S⟩
    · rw [if_neg c]
      refine ⟨M, ?_, Alk.rf, h⟩
      by_cases c2 : e - 12 < n
      · rw [if_pos (by simpa using c2), if_neg (by simpa using c)]
      · rw [if_neg (by simpa using c2)]
  rw [if_pos (by omega), if_neg h17]
  by_cases e17 : e = 17
  · rw [if_pos e17, if_pos e17]
    obtain ⟨M', e, A, S⟩ := c_voices hR hn h
    exact ⟨M', by rw [e]; rfl, A.wk (fun a b e => Or.inl e.1), S⟩
  · rw [if_neg e17, if_neg e17]
    obtain ⟨M', e, A, S⟩ := c_on (m := 1) oR hR h ok (by decide)
    exact ⟨M', by rw [show f_X7_goOn 1 1 M = some M' from e]; rfl, A, S⟩
theorem m_happenY {M2 : Mem} {n : Nat} {vo ra ki : Nat → Nat} {ba : Nat} {p : St × Nat} {e : Nat} (hR : mR M2 n vo ra ki) (oR : okR n vo ra ki) (h : mS M2 1 n p.1.1 p.1.2.1 p.1.2.2 p.2 ba) (hT : mT M2 63) (ok : okD n p.2 p.1) (he : e < 28) (k : Int32 → Int32 → Int32 → Mem → Option (Int32 × Mem)) (v1 v2 v3 : Int32) : ∃ M', (if nI e ≤ 17 then if nI e = 17 then (f_X10_pitchOn 1 M2).bind (fun q14 => f_X10_years_165 k v1 v2 v3 q14) else if nI e ≤ 11 then if nI e ≤ 5 then (f_X10_tryThing 1 (nI e) 1 M2).bind (fun q9 => f_X10_years_165 k v1 v2 v3 q9.2) else if ¬ ((38 : Int32) < 0 ∨ 40 ≤ (38 : Int32).toNatClampNeg) then (f_X10_isSinger (nI e - (6 : Int32)) M2).bind (fun q11 => if q11 = 0 then f_X10_years_151 k v1 v2 v3 38 (M2.1 27 4 (38 : Int32).toNatClampNeg) 0 M2 else f_X10_years_151 k v1 v2 v3 38 (M2.1 27 4 (38 : Int32).toNatClampNeg) ((1 : Int32) <<< ((nI e - (6 : Int32)) &&& 31)) M2) else none else (f_X10_tryThing 2 (nI e - (12 : Int32)) (nI e - (11 : Int32)) M2).bind (fun q13 => f_X10_years_165 k v1 v2 v3 q13.2) else (f_X10_passOn 1 M2).bind (fun q15 => f_X10_years_165 k v1 v2 v3 q15)) = f_X10_years_165 k v1 v2 v3 M' ∧ QM M2 M' ∧ mR M' n vo ra ki ∧ mT M' 63 ∧ ∃ ba', mS M' 1 n (stepY n vo ra ki p e).1.1 (stepY n vo ra ki p e).1.2.1 (stepY n vo ra ki p e).1.2.2 (stepY n vo ra ki p e).2 ba' := by
  have hn := oR.1
  have a5 := k28' he 5 (by decide) (x := 5) rfl
  have a11 := k28' he 11 (by decide) (x := 11) rfl
  have a17 := k28' he 17 (by decide) (x := 17) rfl
  have b17 : (nI e = 17) = (e = 17) := eq_nI (b := 17) (by omega) (by decide)
  simp only [a5, a11, a17, b17]
  unfold stepY
  by_cases h6 : e < 6
  · rw [if_pos (by omega), if_neg (by omega), if_pos (by omega), if_pos (by omega), if_pos h6]
    obtain ⟨M', e', Q, R, T, S, N⟩ := m_tryThing (a := 1) (b := e) (c := 1) hR oR h hT ok (by decide) (by omega) (by decide)
    rw [show f_X10_tryThing 1 (nI e) 1 M2 = _ from e']
    simp only [Option.bind_some]
    refine ⟨M', rfl, Q, R, T, ?_⟩
    by_cases c : e < n
    · rw [if_pos c]
      exact S (by rw [gd1]; simp [c])
    · rw [if_neg c, N (by rw [gd1]; simp [c]) (Or.inl rfl)]
      exact ⟨ba, h⟩
  rw [if_neg h6]
  by_cases h12 : e < 12
  · rw [if_pos (by omega), if_neg (by omega), if_pos (by omega), if_neg (by omega), if_pos h12, show nI e - 6 = nI (e - 6) from pk_sub (b := 6) (by omega), m_isSinger hR.2.2.2 hn, isS_nI (by omega), shl1 (by omega)]
    rw [if_pos (show ¬ ((38 : Int32) < 0 ∨ 40 ≤ (38 : Int32).toNatClampNeg) by decide), show (38 : Int32).toNatClampNeg = 38 from rfl, show M2.1 27 4 38 = nI p.2 from h.2.2.2.1]
    simp only [Option.bind_some, if_b2]
    unfold f_X10_years_151
    rw [if_pos (show ¬ ((38 : Int32) < 0 ∨ 40 ≤ (38 : Int32).toNatClampNeg) by decide), if_pos (show ¬ ((38 : Int32) < 0 ∨ 40 ≤ (38 : Int32).toNatClampNeg) by decide), show (38 : Int32).toNatClampNeg = 38 from rfl]
    simp only [lt_]
    have fin : ∀ x : Nat, ∃ M', f_X10_years_165 k v1 v2 v3 (sw M2 27 4 38 (nI x)) = f_X10_years_165 k v1 v2 v3 M' ∧ QM M2 M' ∧ mR M' n vo ra ki ∧ mT M' 63 ∧ mS M' 1 n p.1.1 p.1.2.1 p.1.2.2 x ba := by
      intro x
      have A : Alk (fun a b => a = 27 ∧ b = 4) M2 (sw M2 27 4 38 (nI x)) := Alk.sw ⟨rfl, rfl⟩
      have o : ∀ j, j ≠ 38 → (sw M2 27 4 38 (nI x)).1 27 4 j = M2.1 27 4 j := fun j hj => by rw [sw_same, upd_ne hj]
      refine ⟨_, rfl, QM.of4 A (fun k hk => o k (by omega)), mR_alk hR A (fun b _ e => by omega), mT_alk hT A (by omega), fun i hi => ?_, fun i hi => ?_, fun i hi => ?_, ?_, ?_⟩
      · rw [o _ (by omega)]; exact h.1 i hi
      · rw [o _ (by omega)]; exact h.2.1 i hi
      · rw [o _ (by omega)]; exact h.2.2.1 i hi
      · rw [show 20 * 1 + 18 = 38 from rfl, sw_same, upd_same]
      · rw [o _ (by omega)]; exact h.2.2.2.2
    by_cases c : e - 6 < n
    · rw [if_pos (by simpa using c), if_pos c, nI_xor]
      obtain ⟨M', e', Q, R, T, S⟩ := fin (p.2 ^^^ 2 ^ (e - 6))
      exact ⟨M', e', Q, R, T, ba, S⟩
    · rw [if_neg (by simpa using c), if_neg c, show nI p.2 ^^^ 0 = nI (p.2 ^^^ 0) from nI_xor p.2 0, Nat.xor_zero]
      obtain ⟨M', e', Q, R, T, S⟩ := fin p.2
      exact ⟨M', e', Q, R, T, ba, S⟩
  rw [if_neg h12]
  by_cases h17 : e < 17
  · rw [if_pos (by omega), if_neg (by omega), if_neg (by omega), if_pos h17, show nI e - 12 = nI (e - 12) from pk_sub (b := 12) (by omega), show nI e - 11 = nI (e - 11) from pk_sub (b := 11) (by omega)]
    obtain ⟨M', e', Q, R, T, S, N⟩ := m_tryThing (a := 2) (b := e - 12) (c := e - 11) hR oR h hT ok (by decide) (by omega) (by omega)
    rw [show f_X10_tryThing 2 (nI (e - 12)) (nI (e - 11)) M2 = _ from e']
    simp only [Option.bind_some]
    refine ⟨M', rfl, Q, R, T, ?_⟩
    by_cases c : e - 11 < n
    · rw [if_pos c]
      exact S (by rw [gd2]; simp; omega)
    · rw [if_neg c, N (by rw [gd2]; simp [c]) (Or.inr rfl)]
      exact ⟨ba, h⟩
  rw [if_neg h17]
  by_cases e17 : e = 17
  · rw [if_pos (by omega), if_pos e17, if_pos e17]
    obtain ⟨M', e, A, S, o⟩ := m_pitchOn (lv := 1) hR hn h (by decide)
    refine ⟨M', by rw [show f_X10_pitchOn 1 M2 = some M' from e]; rfl, QM.of4 A (fun k hk => o k (by omega)), mR_alk hR A (fun b _ e => by omega), mT_alk hT A (by omega), ba, S⟩
  · rw [if_neg (by omega), if_neg e17]
    obtain ⟨M', e, A, S, o⟩ := m_passOn (lv := 1) hR oR h hT (by decide) (okS_B ok) (by decide)
    refine ⟨M', by rw [show f_X10_passOn 1 M2 = some M' from e]; rfl, QM.of A (fun k hk => o k (by omega)), mR_alk hR A (fun b _ e => by omega), mT_alk hT A (by omega), ba + 1, mS_congr S (fun i hi => ?_)⟩
    rw [nxA_63 hn]
    show _ = stp n (2 ^ n - 1) vo ra ki p.1.1 p.1.2.1 p.1.2.2 p.2 i
    unfold stp
    rw [if_pos (by rw [tb_full]; simpa using hi)]
    rfl
def yrF (n : Nat) (vo ra ki : Nat → Nat) (x : Int64) (p : St × Nat) : Nat → St × Nat
  | 0 => p
  | k + 1 => stepY n vo ra ki (yrF n vo ra ki x p k) (evN (sdF x (k + 1)))
def yrS (n : Nat) (vo ra ki : Nat → Nat) (x : Int64) (p : St × Nat) : Nat → Nat
  | 0 => 0
  | k + 1 => yrS n vo ra ki x p k + rich (2 ^ n - 1) (yrF n vo ra ki x p (k + 1)).1.2.2
theorem yrS_succ {n : Nat} {vo ra ki : Nat → Nat} {x : Int64} {p : St × Nat} {k : Nat} : yrS n vo ra ki x p (k + 1) = yrS n vo ra ki x p k + rich (2 ^ n - 1) (yrF n vo ra ki x p (k + 1)).1.2.2 := by rw [yrS]
theorem yrF_succ {n : Nat} {vo ra ki : Nat → Nat} {x : Int64} {p : St × Nat} {k : Nat} : yrF n vo ra ki x p (k + 1) = stepY n vo ra ki (yrF n vo ra ki x p k) (evN (sdF x (k + 1))) := by rw [yrF]
theorem okY {n : Nat} {vo ra ki : Nat → Nat} {x : Int64} {p : St × Nat} (oR : okR n vo ra ki) (ok : okD n p.2 p.1) : ∀ k, okD n (yrF n vo ra ki x p k).2 (yrF n vo ra ki x p k).1 := by
  intro k
  induction k with
  | zero => exact ok
  | succ k ih => exact okD_stepY oR ih
theorem sl_1 {M : Mem} {o : Nat} {x : Int64} : (sl M o x).1 = M.1 := rfl
theorem cR_1 {M M' : Mem} {n : Nat} {vo ra ki : Nat → Nat} (h : cR M n vo ra ki) (e : M'.1 = M.1) : cR M' n vo ra ki := by
  unfold cR at *; rw [e]; exact h
theorem cS_1 {M M' : Mem} {o n th : Nat} {se go no : Nat → Nat} {he ba : Nat} (h : cS M o n th se go no he ba) (e : M'.1 = M.1) : cS M' o n th se go no he ba := by
  unfold cS at *; rw [e]; exact h
theorem mR_1 {M M' : Mem} {n : Nat} {vo ra ki : Nat → Nat} (h : mR M n vo ra ki) (e : M'.1 = M.1) : mR M' n vo ra ki := by
  unfold mR at *; rw [e]; exact h
theorem mS_1 {M M' : Mem} {lv n : Nat} {se go no : Nat → Nat} {he ba : Nat} (h : mS M lv n se go no he ba) (e : M'.1 = M.1) : mS M' lv n se go no he ba := by
  unfold mS at *; rw [e]; exact h
theorem mT_1 {M M' : Mem} {th : Nat} (h : mT M th) (e : M'.1 = M.1) : mT M' th := by
  unfold mT at *; rw [e]; exact h
theorem Now_1 {M M' : Mem} {n : Nat} {vo ra ki se go no : Nat → Nat} {he ba : Nat} (h : Now M n vo ra ki se go no he ba) (e : M'.1 = M.1) : Now M' n vo ra ki se go no he ba := ⟨h.1, cR_1 h.2.1 e, mR_1 h.2.2.1 e, h.2.2.2.1, cS_1 h.2.2.2.2.1 e, mS_1 h.2.2.2.2.2.1 e, mT_1 h.2.2.2.2.2.2 e⟩
theorem Inv_1 {M M' : Mem} (h : Inv M) (e : M'.1 = M.1) (e2 : M'.2 26 = M'.2 27) : Inv M' := by
  obtain ⟨⟨n, vo, ra, ki, se, go, no, he, ba, hC⟩, hH, hT, -⟩ := h
  exact ⟨⟨n, vo, ra, ki, se, go, no, he, ba, Core_eq hC (fun a b _ => by rw [e]) (fun b _ => by rw [e]) (fun j _ => by rw [e])⟩, Hrd_eq hH (fun b => by rw [e]) (fun b _ => by rw [e]) (by rw [e]), Txt_eq hT (fun b => by rw [e]) (by rw [e]) (by rw [e]), e2⟩
/-- alike but for the longs -/
def AL (M M' : Mem) : Prop := ∀ a b, ¬ PC a b → M'.1 a b = M.1 a b
def QL (M M' : Mem) : Prop := (∀ a b, ¬ (a = 27 ∧ (b = 0 ∨ b = 4 ∨ b = 5 ∨ b = 7 ∨ b = 9)) → M'.1 a b = M.1 a b) ∧ (∀ k, k < 20 → M'.1 27 4 k = M.1 27 4 k) ∧ (∀ k, ¬ (k = 6 ∨ k = 7 ∨ k = 10 ∨ k = 11) → M'.1 27 0 k = M.1 27 0 k)
def wL (M : Mem) (f : Nat → Int64) : Mem := (M.1, f)
theorem wL_1 {M : Mem} {f : Nat → Int64} : (wL M f).1 = M.1 := rfl
theorem wL_2 {M : Mem} {f : Nat → Int64} : (wL M f).2 = f := rfl
theorem AL.alk {M M' : Mem} (h : AL M M') : Alk PC M (wL M' M.2) := ⟨fun a b q => by rw [wL_1]; exact h a b q, wL_2⟩
theorem QL.qm {M M' : Mem} (h : QL M M') : QM M (wL M' M.2) := ⟨fun a b q => by rw [wL_1]; exact h.1 a b q, fun k q => by rw [wL_1]; exact h.2.1 k q, fun k q => by rw [wL_1]; exact h.2.2 k q, wL_2⟩
theorem Now_AL {M M' : Mem} {n : Nat} {vo ra ki se go no : Nat → Nat} {he ba : Nat} (h : Now M n vo ra ki se go no he ba) (hA : AL M M') : Now M' n vo ra ki se go no he ba := Now_1 (Now_c h hA.alk) wL_1.symm
theorem AL.sl {M M' : Mem} {o : Nat} {x : Int64} (h : AL M M') : AL M (sl M' o x) := fun a b q => by rw [sl_1]; exact h a b q
theorem AL.tr {M M1 M2 : Mem} (h : AL M M1) (h2 : Alk PC M1 M2) : AL M M2 := fun a b q => (h2.1 a b q).trans (h a b q)
theorem QL.sl {M M' : Mem} {o : Nat} {x : Int64} (h : QL M M') : QL M (sl M' o x) := ⟨fun a b q => by rw [sl_1]; exact h.1 a b q, fun k q => by rw [sl_1]; exact h.2.1 k q, fun k q => by rw [sl_1]; exact h.2.2 k q⟩
theorem QL.tr {M M1 M2 : Mem} (h : QL M M1) (h2 : QM M1 M2) : QL M M2 := ⟨fun a b q => (h2.1 a b q).trans (h.1 a b q), fun k q => (h2.2.1 k q).trans (h.2.1 k q), fun k q => (h2.2.2.1 k q).trans (h.2.2 k q)⟩
theorem Inv_AQ {M M1 M2 : Mem} (h : Inv M) (h1 : AL M M1) (h2 : QL M1 M2) (e : M2.2 26 = M2.2 27) : Inv M2 := by
  have i1 := Inv_c h h1.alk
  have q2 : QM (wL M1 M.2) (wL M2 M.2) := ⟨fun a b q => by rw [wL_1, wL_1]; exact h2.1 a b q, fun k q => by rw [wL_1, wL_1]; exact h2.2.1 k q, fun k q => by rw [wL_1, wL_1]; exact h2.2.2 k q, by rw [wL_2, wL_2]⟩
  exact Inv_1 (Inv_m i1 q2) wL_1.symm e
theorem c_years {M : Mem} {n k : Nat} {vo ra ki se go no : Nat → Nat} {he ba : Nat} {x : Int64} {p : St × Nat} (hN : Now M n vo ra ki se go no he ba) (hk : k ≤ 30) (hx : x = M.2 26) (hp : p = ((se, go, no), he)) : ∃ M', f_X8_goThrough (nI k) M = some (nI (yrS n vo ra ki x p k), M') ∧ AL M M' ∧ M'.2 26 = sdF x k ∧ M'.2 27 = M.2 27 := by
  obtain ⟨oR, hcR, hmR, ok, hcS, hmS, hTh⟩ := id hN
  have hn := hN.1.1
  have hok : okD n p.2 p.1 := by rw [hp]; exact ok
  have Yk := okY (x := x) oR hok
  obtain ⟨M1, e1, A1, S1, N1⟩ := c_lay hN
  have F0 : yrF n vo ra ki x p 0 = ((se, go, no), he) := by rw [yrF, hp]
  unfold f_X8_goThrough
  rw [e1]
  simp only [Option.bind_some]
  refine loopE (fun f j (y : Nat × Mem) => f_X8_goThrough_15 f (nI k) (nI y.1) (nI j) y.2) k (fun j y => y.1 = yrS n vo ra ki x p j ∧ AL M y.2 ∧ y.2.2 26 = sdF x j ∧ y.2.2 27 = M.2 27 ∧ cS y.2 1 n (2 ^ n - 1) (yrF n vo ra ki x p j).1.1 (yrF n vo ra ki x p j).1.2.1 (yrF n vo ra ki x p j).1.2.2 (yrF n vo ra ki x p j).2 ba) (fun r => ∃ M', r = some (nI (yrS n vo ra ki x p k), M') ∧ AL M M' ∧ M'.2 26 = sdF x k ∧ M'.2 27 = M.2 27) ?_ ?_ k 0 (by omega) 100 (0, M1) (by omega) ⟨by rw [yrS], A1.1, by rw [sdF, A1.2, ← hx], by rw [A1.2], by rw [F0]; exact S1⟩
  · rintro f j ⟨t, M2⟩ hj ⟨ht, A2, s2, s2', S2⟩
    simp only at ht A2 s2 s2' S2
    left
    obtain ⟨y, hy⟩ : ∃ y, y = sdF x (j + 1) := ⟨_, rfl⟩
    have hy2 : sdF x j * (6364136223846793005 : Int64) + (1442695040888963407 : Int64) = y := by rw [hy, sdF_succ]
    have F1 : yrF n vo ra ki x p (j + 1) = stepY n vo ra ki (yrF n vo ra ki x p j) (evN y) := by rw [hy, yrF_succ]
    obtain ⟨M3, h3⟩ : ∃ M3, M3 = sl M2 26 y := ⟨_, rfl⟩
    have e3 : M3.1 = M2.1 := by rw [h3, sl_1]
    have e3' : M3.2 26 = y := by rw [h3, sl_at]
    have e3'' : M3.2 27 = M2.2 27 := by rw [h3, sl_ne (by decide)]
    have A3 : AL M M3 := by rw [h3]; exact A2.sl
    obtain ⟨M4, e4, A4, S4⟩ := c_happenY (M := M3) (Now_AL hN A3).2.1 oR (cS_1 S2 e3) (Yk j) (evN_lt y)
    rw [← F1] at S4
    refine ⟨(yrS n vo ra ki x p (j + 1), M4), ?_, rfl, A3.tr A4, by rw [A4.2, e3', hy], by rw [A4.2, e3'', s2'], S4⟩
    show f_X8_goThrough_15 (f + 1) (nI k) (nI t) (nI j) M2 = f_X8_goThrough_15 f (nI k) (nI (yrS n vo ra ki x p (j + 1))) (nI (j + 1)) M4
    rw [f_X8_goThrough_15, if_neg (nI_ge hj (by omega))]
    rw [s2, hy2, ← h3, lt_, lt_, e3', ev_eq, e4]
    simp only [Option.bind_some]
    rw [c_richness S4 (Yk (j + 1)) hn]
    simp only [Option.bind_some]
    rw [nI_add1, ht, nI_add, ← yrS_succ, lt_, lt_]
  · rintro f ⟨t, M2⟩ ⟨ht, A2, s2, s2', S2⟩
    refine ⟨M2, ?_, A2, s2, s2'⟩
    show f_X8_goThrough_15 (f + 1) (nI k) (nI t) (nI k) M2 = _
    rw [f_X8_goThrough_15, if_pos (nI_le (Nat.le_refl k) (by omega))]
    simp only at ht
    rw [ht]
theorem m_years {M1 : Mem} {n k : Nat} {vo ra ki se go no : Nat → Nat} {he ba : Nat} {x : Int64} {p : St × Nat} (N1 : Now M1 n vo ra ki se go no he ba) (hk : k ≤ 30) (hx : x = M1.2 27) (hp : p = ((se, go, no), he)) : ∃ M', (f_X10_layTrial M1).bind (fun q3 => f_X10_years_23 100 (nI k) 0 0 q3) = some (nI (yrS n vo ra ki x p k), M') ∧ QL M1 M' ∧ M'.2 27 = sdF x k ∧ M'.2 26 = M1.2 26 := by
  obtain ⟨oR, hcR, hmR, ok, hcS, hmS, hTh⟩ := id N1
  have hn := N1.1.1
  have hok : okD n p.2 p.1 := by rw [hp]; exact ok
  have Yk := okY (x := x) oR hok
  have F0 : yrF n vo ra ki x p 0 = ((se, go, no), he) := by rw [yrF, hp]
  obtain ⟨M2, e2, Q2, S2, R2, T2⟩ := m_layQ N1
  rw [e2]
  simp only [Option.bind_some]
  refine loopE (fun f j (y : Nat × Mem) => f_X10_years_23 f (nI k) (nI y.1) (nI j) y.2) k (fun j y => y.1 = yrS n vo ra ki x p j ∧ QL M1 y.2 ∧ y.2.2 27 = sdF x j ∧ y.2.2 26 = M1.2 26 ∧ mR y.2 n vo ra ki ∧ mT y.2 63 ∧ ∃ ba, mS y.2 1 n (yrF n vo ra ki x p j).1.1 (yrF n vo ra ki x p j).1.2.1 (yrF n vo ra ki x p j).1.2.2 (yrF n vo ra ki x p j).2 ba) (fun r => ∃ M', r = some (nI (yrS n vo ra ki x p k), M') ∧ QL M1 M' ∧ M'.2 27 = sdF x k ∧ M'.2 26 = M1.2 26) ?_ ?_ k 0 (by omega) 100 (0, M2) (by omega) ⟨by rw [yrS], ⟨Q2.1, Q2.2.1, Q2.2.2.1⟩, by rw [sdF, Q2.2.2.2, ← hx], by rw [Q2.2.2.2], R2, T2, ba, by rw [F0]; exact S2⟩
  · rintro f j ⟨t, M3⟩ hj ⟨ht, Q3, s3, s3', R3, T3, b3, S3⟩
    simp only at ht Q3 s3 s3' R3 T3 S3
    left
    obtain ⟨y, hy⟩ : ∃ y, y = sdF x (j + 1) := ⟨_, rfl⟩
    have hy2 : sdF x j * (6364136223846793005 : Int64) + (1442695040888963407 : Int64) = y := by rw [hy, sdF_succ]
    have F1 : yrF n vo ra ki x p (j + 1) = stepY n vo ra ki (yrF n vo ra ki x p j) (evN y) := by rw [hy, yrF_succ]
    obtain ⟨M5, h5⟩ : ∃ M5, M5 = sl M3 27 y := ⟨_, rfl⟩
    have e5 : M5.1 = M3.1 := by rw [h5, sl_1]
    have e5' : M5.2 27 = y := by rw [h5, sl_at]
    have e5'' : M5.2 26 = M3.2 26 := by rw [h5, sl_ne (by decide)]
    have Q5 : QL M1 M5 := by rw [h5]; exact Q3.sl
    obtain ⟨M4, e4, Q4, R4, T4, b4, S4⟩ := m_happenY (M2 := M5) (mR_1 R3 e5) oR (mS_1 S3 e5) (mT_1 T3 e5) (Yk j) (evN_lt y) (f_X10_years_23 f) (nI k) (nI t) (nI j)
    rw [← F1] at S4
    refine ⟨(yrS n vo ra ki x p (j + 1), M4), ?_, rfl, Q5.tr Q4, by rw [Q4.2.2.2, e5', hy], by rw [Q4.2.2.2, e5'', s3'], R4, T4, b4, S4⟩
    show f_X10_years_23 (f + 1) (nI k) (nI t) (nI j) M3 = f_X10_years_23 f (nI k) (nI (yrS n vo ra ki x p (j + 1))) (nI (j + 1)) M4
    rw [f_X10_years_23, if_neg (nI_ge hj (by omega))]
    rw [s3, hy2, ← h5, lt_, lt_, e5', lt_, ev_eq, e4]
    unfold f_X10_years_165
    rw [show (1 : Int32) = nI 1 from rfl, m_count R4 hn S4 T4 (fun i hi => ((Yk (j + 1)).2.1 i hi).2.2) (by decide)]
    simp only [lt_]
    rw [show nI j + nI 1 = nI (j + 1) from nI_add j 1, ht, nI_add, ← yrS_succ]
  · rintro f ⟨t, M3⟩ ⟨ht, Q3, s3, s3', -⟩
    refine ⟨M3, ?_, Q3, s3, s3'⟩
    show f_X10_years_23 (f + 1) (nI k) (nI t) (nI k) M3 = _
    rw [f_X10_years_23, if_pos (nI_le (Nat.le_refl k) (by omega))]
    simp only at ht
    rw [ht]
theorem op_years (v : Int32) : Op (f_X9_years v) (f_X10_years v) := by
  intro M hI
  obtain ⟨⟨n, vo, ra, ki, se, go, no, he, ba, hN, -, -⟩, -, -, hsd⟩ := id hI
  obtain ⟨oR, hcR, hmR, ok, hcS, hmS, hTh⟩ := id hN
  have hn := hN.1.1
  unfold f_X9_years f_X10_years f_X9_years_23
  simp only [c_within, Option.bind_some, if_b2]
  rw [show f_X10_in v.toInt64 1 30 = fun M => some (b2 (wi 1 30 v)) from funext fun M => m_within]
  simp only [Option.bind_some, if_b2]
  rw [show (1 : Int32).toInt = 1 from rfl, show (30 : Int32).toInt = 30 from rfl]
  by_cases h : wi 1 30 v = true
  case neg => exact ⟨-2, M, M, by rw [if_neg h], by rw [if_neg h], hI⟩
  obtain ⟨k, rfl, hk1, hk4⟩ := wi_true (lo := 1) (hi := 30) h (by decide)
  simp only [if_pos h]
  obtain ⟨x, hx⟩ : ∃ x, x = M.2 26 := ⟨_, rfl⟩
  obtain ⟨p, hp⟩ : ∃ p : St × Nat, p = ((se, go, no), he) := ⟨_, rfl⟩
  obtain ⟨M1, e1, A1, s1, s1'⟩ := c_years hN hk4 hx hp
  obtain ⟨M2, e2, Q2, s2, s2'⟩ := m_years (x := x) (Now_AL hN A1) hk4 (by rw [s1', ← hsd, hx]) hp
  refine ⟨nI (yrS n vo ra ki x p k), M1, M2, ?_, e2, Inv_AQ hI A1 Q2 (by rw [s2, s2', s1])⟩
  rw [e1]
  rfl
