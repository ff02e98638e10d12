theorem tb_full {n i : Nat} : (2 ^ n - 1).testBit i = decide (i < n) := Nat.testBit_two_pow_sub_one n i
theorem tb_63 {i : Nat} : Nat.testBit 63 i = decide (i < 6) := tb_full (n := 6)
theorem seesB_63 {n : Nat} (hn : n ≤ 6) : seesB n 63 = seesB n (2 ^ n - 1) := by
  funext se s o
  unfold seesB
  by_cases h : o < n
  · rw [tb_63, tb_full]
    have : o < 6 := by omega
    simp [h, this]
  · simp [h]
theorem envy_63 {n : Nat} (hn : n ≤ 6) : envy n 63 = envy n (2 ^ n - 1) := by
  funext ki se go no he s
  unfold envy
  rw [seesB_63 hn]
theorem nxt_63 {n : Nat} (hn : n ≤ 6) : nxt n 63 = nxt n (2 ^ n - 1) := by
  funext vo ra ki se go no he s
  unfold nxt
  rw [envy_63 hn]
theorem nxA_63 {n : Nat} (hn : n ≤ 6) : nxA n 63 = nxA n (2 ^ n - 1) := by
  funext vo ra ki se go no he s
  unfold nxA
  rw [nxt_63 hn]
theorem itA_63 {n : Nat} {vo ra ki se go no : Nat → Nat} {he : Nat} (hn : n ≤ 6) : ∀ k, itA n 63 vo ra ki se go no he k = itA n (2 ^ n - 1) vo ra ki se go no he k := by
  intro k
  induction k with
  | zero => rfl
  | succ k ih => simp only [itA, ih, nxA_63 hn]
theorem msk_63 {n : Nat} {no : Nat → Nat} (hn : n ≤ 6) : mskF (fun i => Nat.testBit 63 i) no n = mskF (fun i => (2 ^ n - 1).testBit i) no n := mskF_congr (fun i hi => by
  rw [tb_63, tb_full]
  have : i < 6 := by omega
  simp [hi, this]) (fun _ _ _ => rfl)
/-- all there: full agreement -/
theorem itA_full {n : Nat} {vo ra ki se go no : Nat → Nat} {he : Nat} (k i : Nat) (hi : i < n) : itA n (2 ^ n - 1) vo ra ki se go no he k i = itr n (2 ^ n - 1) vo ra ki se go no he k i := itA_itr k i hi (by rw [tb_full]; simp [hi])
theorem rich_congr {th : Nat} {n1 n2 : Nat → Nat} (h : ∀ i, th.testBit i = true → n1 i = n2 i) : rich th n1 = rich th n2 := by
  unfold rich
  rw [mskF_congr (P := fun i => th.testBit i) (Q := fun i => th.testBit i) (r1 := n1) (r2 := n2) (fun _ _ => rfl) (fun i _ hp => h i hp)]
theorem full_lt (n : Nat) : 2 ^ n - 1 < 2 ^ n := by have := Nat.two_pow_pos n; omega
/-! the whole -/
def mX (M : Mem) (b pl n : Nat) (se go no : Nat → Nat) (he ba : Nat) : Prop := (∀ i, i < n → M.1 27 b (pl + i) = nI (se i)) ∧ (∀ i, i < n → M.1 27 b (pl + 6 + i) = nI (go i)) ∧ (∀ i, i < n → M.1 27 b (pl + 12 + i) = nI (no i)) ∧ M.1 27 b (pl + 18) = nI he ∧ M.1 27 b (pl + 19) = nI ba
def Now (M : Mem) (n : Nat) (vo ra ki se go no : Nat → Nat) (he ba : Nat) : Prop := okR n vo ra ki ∧ cR M n vo ra ki ∧ mR M n vo ra ki ∧ okS n (2 ^ n - 1) se go no he ∧ cS M 0 n (2 ^ n - 1) se go no he ba ∧ mS M 0 n se go no he ba ∧ mT M 63
def Slo (M : Mem) (n o b pl : Nat) : Prop := ∃ se go no he ba, okS n (2 ^ n - 1) se go no he ∧ cS M o n (2 ^ n - 1) se go no he ba ∧ mX M b pl n se go no he ba
def Ring (M : Mem) (n : Nat) : Prop := ∃ nx ac, nx < 14 ∧ ac ≤ 14 ∧ M.1 21 0 1 = nI nx ∧ M.1 21 0 2 = nI ac ∧ M.1 27 0 15 = nI nx ∧ M.1 27 0 14 = nI ac ∧ ∀ j, j < 14 → (nx + 13 - j) % 14 < ac → Slo M n (2 + j) 8 (20 * j)
def Shf (M : Mem) (n : Nat) : Prop := ∃ fl, fl < 4 ∧ M.1 22 0 1 = nI fl ∧ ∀ i, i < 2 → M.1 27 13 i = b2 (fl.testBit i) ∧ (fl.testBit i = true → Slo M n (16 + i) 14 (20 * i))
def Hrd (M : Mem) : Prop := ∃ (hn : Nat) (hs ht hv : Nat → Nat), hn ≤ 6 ∧ M.1 23 0 3 = nI hn ∧ M.1 27 0 18 = nI hn ∧ ∀ i, i < hn → hs i < 6 ∧ ht i < 10 ∧ hv i < 10 ∧ M.1 23 1 i = nI (hs i) ∧ M.1 23 2 i = nI (ht i) ∧ M.1 23 3 i = nI (hv i) ∧ M.1 27 10 i = nI (hs i) ∧ M.1 27 11 i = nI (ht i) ∧ M.1 27 12 i = nI (hv i)
def Txt (M : Mem) : Prop := ∃ (len : Nat) (tx : Nat → Nat), len ≤ 48 ∧ M.1 18 0 1 = nI len ∧ M.1 27 0 9 = nI len ∧ ∀ i, i < len → tx i < 256 ∧ M.1 18 1 i = nI (tx i) ∧ M.1 27 6 i = nI (tx i)
def Core (M : Mem) (n : Nat) (vo ra ki se go no : Nat → Nat) (he ba : Nat) : Prop := Now M n vo ra ki se go no he ba ∧ Ring M n ∧ Shf M n
def Inv (M : Mem) : Prop := (∃ n vo ra ki se go no he ba, Core M n vo ra ki se go no he ba) ∧ Hrd M ∧ Txt M ∧ M.2 26 = M.2 27
theorem cS_eq {M M' : Mem} {o n th : Nat} {se go no : Nat → Nat} {he ba : Nat} (h : cS M o n th se go no he ba) (e : ∀ b, b < 4 → M'.1 o b = M.1 o b) : cS M' o n th se go no he ba := by
  unfold cS
  rw [e 0 (by decide), e 1 (by decide), e 2 (by decide), e 3 (by decide)]
  exact h
theorem Slo_eq {M M' : Mem} {n o b pl : Nat} (h : Slo M n o b pl) (e : ∀ x, x < 4 → M'.1 o x = M.1 o x) (e2 : ∀ k, k < 20 → M'.1 27 b (pl + k) = M.1 27 b (pl + k)) (hn : n ≤ 6) : Slo M' n o b pl := by
  obtain ⟨se, go, no, he, ba, h1, h2, h3⟩ := h
  refine ⟨se, go, no, he, ba, h1, cS_eq h2 e, fun i hi => ?_, fun i hi => ?_, fun i hi => ?_, ?_, ?_⟩
  · rw [e2 i (by omega)]; exact h3.1 i hi
  · have := e2 (6 + i) (by omega); rw [← Nat.add_assoc] at this; rw [this]; exact h3.2.1 i hi
  · have := e2 (12 + i) (by omega); rw [← Nat.add_assoc] at this; rw [this]; exact h3.2.2.1 i hi
  · rw [e2 18 (by omega)]; exact h3.2.2.2.1
  · rw [e2 19 (by omega)]; exact h3.2.2.2.2
theorem mS_eq {M M' : Mem} {n : Nat} {se go no : Nat → Nat} {he ba : Nat} (h : mS M 0 n se go no he ba) (e : ∀ k, k < 20 → M'.1 27 4 k = M.1 27 4 k) (hn : n ≤ 6) : mS M' 0 n se go no he ba := by
  refine ⟨fun i hi => ?_, fun i hi => ?_, fun i hi => ?_, ?_, ?_⟩
  · rw [e _ (by omega)]; exact h.1 i hi
  · rw [e _ (by omega)]; exact h.2.1 i hi
  · rw [e _ (by omega)]; exact h.2.2.1 i hi
  · rw [e _ (by omega)]; exact h.2.2.2.1
  · rw [e _ (by omega)]; exact h.2.2.2.2
/-- what the class may scribble on while it is only asked -/
abbrev PC : Nat → Nat → Prop := fun a _ => a = 1 ∨ a = 24 ∨ a = 25
/-- what the reference may scribble on -/
def QM (M M' : Mem) : Prop := (∀ a b, ¬ (a = 27 ∧ (b = 0 ∨ b = 4 ∨ b = 5 ∨ b = 7 ∨ b = 9)) → M'.1 a b = M.1 a b) ∧ (∀ k, k < 20 → M'.1 27 4 k = M.1 27 4 k) ∧ (∀ k, ¬ (k = 6 ∨ k = 7 ∨ k = 10 ∨ k = 11) → M'.1 27 0 k = M.1 27 0 k) ∧ M'.2 = M.2
theorem QM.rf {M : Mem} : QM M M := ⟨fun _ _ _ => rfl, fun _ _ => rfl, fun _ _ => rfl, rfl⟩
theorem QM.tr {M1 M2 M3 : Mem} (h1 : QM M1 M2) (h2 : QM M2 M3) : QM M1 M3 := ⟨fun a b h => (h2.1 a b h).trans (h1.1 a b h), fun k h => (h2.2.1 k h).trans (h1.2.1 k h), fun k h => (h2.2.2.1 k h).trans (h1.2.2.1 k h), h2.2.2.2.trans h1.2.2.2⟩
theorem QM.of {M M' : Mem} (h : Alk (fun a b => a = 27 ∧ (b = 4 ∨ b = 7)) M M') (h0 : ∀ k, k < 20 → M'.1 27 4 k = M.1 27 4 k) : QM M M' := ⟨fun a b q => h.1 a b (fun e => q (by omega)), h0, fun k _ => by rw [h.1 27 0 (by omega)], h.2⟩
theorem QM.of4 {M M' : Mem} (h : Alk (fun a b => a = 27 ∧ b = 4) M M') (h0 : ∀ k, k < 20 → M'.1 27 4 k = M.1 27 4 k) : QM M M' := QM.of (h.wk (fun a b e => by omega)) h0
theorem Now_c {M M' : Mem} {n : Nat} {vo ra ki se go no : Nat → Nat} {he ba : Nat} (h : Now M n vo ra ki se go no he ba) (hA : Alk PC M M') : Now M' n vo ra ki se go no he ba := by
  obtain ⟨h1, h2, h3, h4, h5, h6, h7⟩ := h
  exact ⟨h1, cR_alk h2 hA (fun b e => by omega), mR_alk h3 hA (fun b _ e => by omega), h4, cS_alk h5 hA (fun b _ e => by omega), mS_alk h6 hA (by omega), mT_alk h7 hA (by omega)⟩
theorem Now_m {M M' : Mem} {n : Nat} {vo ra ki se go no : Nat → Nat} {he ba : Nat} (h : Now M n vo ra ki se go no he ba) (hA : QM M M') : Now M' n vo ra ki se go no he ba := by
  obtain ⟨h1, h2, h3, h4, h5, h6, h7⟩ := h
  refine ⟨h1, ?_, ?_, h4, cS_eq h5 (fun b _ => hA.1 0 b (by omega)), mS_eq h6 hA.2.1 h1.1, ?_⟩
  · unfold cR
    rw [hA.1 19 0 (by omega), hA.1 19 1 (by omega), hA.1 19 2 (by omega), hA.1 19 3 (by omega)]
    exact h2
  · unfold mR
    rw [hA.1 27 1 (by omega), hA.1 27 2 (by omega), hA.1 27 3 (by omega), hA.2.2.1 0 (by omega)]
    exact h3
  · unfold mT
    rw [hA.2.2.1 12 (by omega)]
    exact h7
theorem Inv_c {M M' : Mem} (h : Inv M) (hA : Alk PC M M') : Inv M' := by
  obtain ⟨⟨n, vo, ra, ki, se, go, no, he, ba, hN, ⟨nx, ac, r1, r2, r3, r4, r5, r6, r7⟩, ⟨fl, s1, s2, s3⟩⟩, ⟨hn, hs, ht, hv, q1, q2, q3, q4⟩, ⟨len, tx, t1, t2, t3, t4⟩, hsd⟩ := h
  refine ⟨⟨n, vo, ra, ki, se, go, no, he, ba, Now_c hN hA, ⟨nx, ac, r1, r2, ?_, ?_, ?_, ?_, fun j hj hv => Slo_eq (r7 j hj hv) (fun x _ => hA.1 _ _ (by omega)) (fun k _ => by rw [hA.1 27 8 (by omega)]) hN.1.1⟩, ⟨fl, s1, ?_, fun i hi => ⟨?_, fun hb => Slo_eq ((s3 i hi).2 hb) (fun x _ => hA.1 _ _ (by omega)) (fun k _ => by rw [hA.1 27 14 (by omega)]) hN.1.1⟩⟩⟩, ⟨hn, hs, ht, hv, q1, ?_, ?_, fun i hi => ?_⟩, ⟨len, tx, t1, ?_, ?_, fun i hi => ?_⟩, ?_⟩
  · rw [hA.1 21 0 (by omega)]; exact r3
  · rw [hA.1 21 0 (by omega)]; exact r4
  · rw [hA.1 27 0 (by omega)]; exact r5
  · rw [hA.1 27 0 (by omega)]; exact r6
  · rw [hA.1 22 0 (by omega)]; exact s2
  · rw [hA.1 27 13 (by omega)]; exact (s3 i hi).1
  · rw [hA.1 23 0 (by omega)]; exact q2
  · rw [hA.1 27 0 (by omega)]; exact q3
  · rw [hA.1 23 1 (by omega), hA.1 23 2 (by omega), hA.1 23 3 (by omega), hA.1 27 10 (by omega), hA.1 27 11 (by omega), hA.1 27 12 (by omega)]; exact q4 i hi
  · rw [hA.1 18 0 (by omega)]; exact t2
  · rw [hA.1 27 0 (by omega)]; exact t3
  · rw [hA.1 18 1 (by omega), hA.1 27 6 (by omega)]; exact t4 i hi
  · rw [hA.2]; exact hsd
theorem Inv_m {M M' : Mem} (h : Inv M) (hA : QM M M') : Inv M' := by
  obtain ⟨⟨n, vo, ra, ki, se, go, no, he, ba, hN, ⟨nx, ac, r1, r2, r3, r4, r5, r6, r7⟩, ⟨fl, s1, s2, s3⟩⟩, ⟨hn, hs, ht, hv, q1, q2, q3, q4⟩, ⟨len, tx, t1, t2, t3, t4⟩, hsd⟩ := h
  refine ⟨⟨n, vo, ra, ki, se, go, no, he, ba, Now_m hN hA, ⟨nx, ac, r1, r2, ?_, ?_, ?_, ?_, fun j hj hv => Slo_eq (r7 j hj hv) (fun x _ => hA.1 _ _ (by omega)) (fun k _ => by rw [hA.1 27 8 (by omega)]) hN.1.1⟩, ⟨fl, s1, ?_, fun i hi => ⟨?_, fun hb => Slo_eq ((s3 i hi).2 hb) (fun x _ => hA.1 _ _ (by omega)) (fun k _ => by rw [hA.1 27 14 (by omega)]) hN.1.1⟩⟩⟩, ⟨hn, hs, ht, hv, q1, ?_, ?_, fun i hi => ?_⟩, ⟨len, tx, t1, ?_, ?_, fun i hi => ?_⟩, ?_⟩
  · rw [hA.1 21 0 (by omega)]; exact r3
  · rw [hA.1 21 0 (by omega)]; exact r4
  · rw [hA.2.2.1 15 (by omega)]; exact r5
  · rw [hA.2.2.1 14 (by omega)]; exact r6
  · rw [hA.1 22 0 (by omega)]; exact s2
  · rw [hA.1 27 13 (by omega)]; exact (s3 i hi).1
  · rw [hA.1 23 0 (by omega)]; exact q2
  · rw [hA.2.2.1 18 (by omega)]; exact q3
  · rw [hA.1 23 1 (by omega), hA.1 23 2 (by omega), hA.1 23 3 (by omega), hA.1 27 10 (by omega), hA.1 27 11 (by omega), hA.1 27 12 (by omega)]; exact q4 i hi
  · rw [hA.1 18 0 (by omega)]; exact t2
  · rw [hA.2.2.1 9 (by omega)]; exact t3
  · rw [hA.1 18 1 (by omega), hA.1 27 6 (by omega)]; exact t4 i hi
  · rw [hA.2.2.2]; exact hsd
/-- one call on both sides -/
def Op (fc fm : Mem → Option (Int32 × Mem)) : Prop := ∀ M, Inv M → ∃ r M1 M2, fc M = some (r, M1) ∧ fm M1 = some (r, M2) ∧ Inv M2
