/-! shares -/
def aC (s : Nat) (g : Nat → Int32) : Nat → Int32
  | 0 => 0
  | k + 1 => if k.testBit s = true then aC s g k + g (k - 2 ^ s) else aC s g k
def aM (s : Nat) (g : Nat → Int32) : Nat → Int32
  | 0 => 0
  | k + 1 => if k.testBit s = true then aM s g k else aM s g k + g k
theorem aC_list {s : Nat} {g : Nat → Int32} : ∀ k, aC s g k = (((List.range k).filter (fun t => t.testBit s)).map (fun t => t - 2 ^ s)).foldl (fun a x => a + g x) 0 := by
  intro k
  induction k with
  | zero => rfl
  | succ k ih =>
    rw [List.range_succ, List.filter_append, List.map_append, List.foldl_append, ← ih]
    simp only [aC]
    by_cases c : k.testBit s = true
    · rw [if_pos c]; simp [List.filter, c]
    · rw [if_neg c]; simp [List.filter, c]
theorem aM_list {s : Nat} {g : Nat → Int32} : ∀ k, aM s g k = ((List.range k).filter (fun t => !t.testBit s)).foldl (fun a x => a + g x) 0 := by
  intro k
  induction k with
  | zero => rfl
  | succ k ih =>
    rw [List.range_succ, List.filter_append, List.foldl_append, ← ih]
    simp only [aM]
    by_cases c : k.testBit s = true
    · rw [if_pos c]; simp [List.filter, c]
    · rw [if_neg c]; simp [List.filter, c]
theorem lists_eq : ∀ n, n < 7 → ∀ s, s < n → ((List.range (2 ^ n)).filter (fun t => t.testBit s)).map (fun t => t - 2 ^ s) = (List.range (2 ^ n)).filter (fun t => !t.testBit s) := by decide +kernel
theorem aC_aM {n s : Nat} {g : Nat → Int32} (hn : n ≤ 6) (hs : s < n) : aC s g (2 ^ n) = aM s g (2 ^ n) := by
  rw [aC_list, aM_list, lists_eq n (by omega) s hs]
theorem F1a : ∀ s, s < 6 → ∀ T, T < 64 → T.testBit s = true → pop T = pop (T - 2 ^ s) + 1 ∧ nI T &&& (((1 : Int32) <<< (nI s &&& 31)) ^^^ (-1)) = nI (T - 2 ^ s) ∧ T - 2 ^ s + 2 ^ s = T := by decide +kernel
theorem F1b : ∀ n, n < 7 → ∀ T, T < 2 ^ n → pop T ≤ n := by decide +kernel
def f2b (n s T : Nat) : Bool := T.testBit s || (decide (pop T ≤ n - 1) && (decide ((T ||| 2 ^ s) = T + 2 ^ s) && decide (T + 2 ^ s < 2 ^ n)))
theorem F2a : ∀ n, n < 7 → ∀ s, s < n → ∀ T, T < 2 ^ n → f2b n s T = true := by decide +kernel
theorem F2 (n : Nat) (hn : n < 7) (s : Nat) (hs : s < n) (T : Nat) (hT : T < 2 ^ n) (h : T.testBit s = false) : pop T ≤ n - 1 ∧ (T ||| 2 ^ s) = T + 2 ^ s ∧ T + 2 ^ s < 2 ^ n := by
  have := F2a n hn s hs T hT
  unfold f2b at this
  rw [h] at this
  simpa using this
def wS (n U : Nat) : Nat := facN (pop U) * facN (n - 1 - pop U)
def gS (n s : Nat) (r : Nat → Nat) (U : Nat) : Int32 := (nI (r (U + 2 ^ s)) - nI (r U)) * nI (wS n U)
theorem Bd_mul {a b c A C : Nat} (ha : a ≤ A) (hb : b ≤ A) (hc : c ≤ C) : Bd ((nI a - nI b) * nI c) (A * C) := ⟨a * c, b * c, Nat.mul_le_mul ha hc, Nat.mul_le_mul hb hc, by rw [Int32.sub_mul, pk_mul, pk_mul]⟩
theorem Bd_add {x y : Int32} {A B : Nat} (h1 : Bd x A) (h2 : Bd y B) : Bd (x + y) (A + B) := by
  obtain ⟨a, b, ha, hb, rfl⟩ := h1
  obtain ⟨c, d, hc, hd, rfl⟩ := h2
  refine ⟨a + c, b + d, by omega, by omega, ?_⟩
  rw [← nI_add, ← nI_add]
  grind
theorem wS_le : ∀ n, n < 7 → ∀ U, U < 64 → wS n U ≤ 720 * 720 := by decide +kernel
theorem aM_bd {n s : Nat} {r : Nat → Nat} (hn : n ≤ 6) (hr : ∀ T, r T < 11) : ∀ k, k ≤ 64 → Bd (aM s (gS n s r) k) (k * (11 * (720 * 720))) := by
  intro k
  induction k with
  | zero => intro _; exact ⟨0, 0, by omega, by omega, rfl⟩
  | succ k ih =>
    intro hk
    have h0 := ih (by omega)
    simp only [aM]
    split
    · obtain ⟨a, b, ha, hb, e⟩ := h0
      exact ⟨a, b, Nat.le_trans ha (Nat.mul_le_mul_right _ (Nat.le_succ k)), Nat.le_trans hb (Nat.mul_le_mul_right _ (Nat.le_succ k)), e⟩
    · rw [Nat.add_mul, Nat.one_mul]
      exact Bd_add h0 (Bd_mul (by have := hr (k + 2 ^ s); omega) (by have := hr k; omega) (wS_le n (by omega) k (by omega)))
theorem rs_lt {n m T : Nat} {vo ra ki se go no : Nat → Nat} {he : Nat} : rsF n vo ra ki se go no he m T < 11 := rich_lt
theorem fac_pos : ∀ n, n < 7 → 0 < facN n ∧ facN n < 2 ^ 20 := by decide +kernel
theorem c_share {M : Mem} {n s d : Nat} {v : Int32} {vo ra ki se go no : Nat → Nat} {he ba : Nat} (hN : Now M n vo ra ki se go no he ba) (hs : s < n) (hd : d < 2 ^ 30) (hx : (if 0 ≤ aM s (gS n s (rsF n vo ra ki se go no he 6)) (2 ^ n) then aM s (gS n s (rsF n vo ra ki se go no he 6)) (2 ^ n) else 0 - aM s (gS n s (rsF n vo ra ki se go no he 6)) (2 ^ n)) = nI d) : ∃ M', f_X1_meanGain (nI s) v M = some (frac d (facN n) (aM s (gS n s (rsF n vo ra ki se go no he 6)) (2 ^ n)) v, M') ∧ Alk PC M M' := by
  obtain ⟨oR, hcR, hmR, ok, hcS, hmS, hTh⟩ := id hN
  have hn := oR.1
  have h64 := two6 hn
  obtain ⟨r, hr⟩ : ∃ r, r = rsF n vo ra ki se go no he 6 := ⟨_, rfl⟩
  rw [← hr] at hx ⊢
  have tab : ∃ M', Alk PC M M' ∧ (∀ U, U < 2 ^ n → M'.1 25 1 U = nI (r U)) ∧ f_X1_meanGain (nI s) v M = f_X1_meanGain_48 (nI s) v (nI (2 ^ n - 1)) M' := by
    unfold f_X1_meanGain
    rw [c_every hcR.2.2.2 hn]
    simp only [Option.bind_some]
    refine loopE (fun f T (M1 : Mem) => f_X1_meanGain_11 f (nI s) v (nI (2 ^ n - 1)) (nI T) M1) (2 ^ n) (fun T M1 => Alk PC M M1 ∧ ∀ U, U < T → M1.1 25 1 U = nI (r U)) (fun x => ∃ M', Alk PC M M' ∧ (∀ U, U < 2 ^ n → M'.1 25 1 U = nI (r U)) ∧ x = f_X1_meanGain_48 (nI s) v (nI (2 ^ n - 1)) M') ?_ ?_ (2 ^ n) 0 (by omega) 100 M (by omega) ⟨Alk.rf, fun U hU => absurd hU (by omega)⟩
    · rintro f T M1 hT ⟨A1, t1⟩
      left
      obtain ⟨M2, e2, A2⟩ := c_some (m := 6) (Now_c hN A1) hT (by decide)
      refine ⟨sw M2 25 1 T (nI (r T)), ?_, (A1.tr (A2.wk (fun a b e => Or.inl e))).tr (Alk.sw (Or.inr (Or.inr rfl))), fun U hU => ?_⟩
      · show f_X1_meanGain_11 (f + 1) (nI s) v (nI (2 ^ n - 1)) (nI T) M1 = _
        rw [f_X1_meanGain_11, if_neg (nI_nlt (by omega) (by omega)), if_neg (show ¬ (64 : Int32) ≤ nI T from fun q => absurd ((nI_leI (a := 64) (by decide) (by omega)).mp q) (by omega)), show f_X1_richnessOfSome (nI T) 6 M1 = _ from e2]
        simp only [Option.bind_some]
        rw [if_gd (show T < 64 by omega) (by decide), lt_, lt_, tn_nI (by omega), nI_add1, hr]
      · rw [sw_same]
        by_cases e : U = T
        · rw [e, upd_same]
        · rw [upd_ne e, A2.1 25 1 (by omega)]; exact t1 U (by omega)
    · rintro f M1 ⟨A1, t1⟩
      refine ⟨M1, A1, t1, ?_⟩
      show f_X1_meanGain_11 (f + 1) (nI s) v (nI (2 ^ n - 1)) (nI (2 ^ n)) M1 = _
      rw [f_X1_meanGain_11, if_pos (nI_lt (full_lt n) (by omega))]
  obtain ⟨M1, A1, t1, e1⟩ := tab
  refine ⟨M1, ?_, A1⟩
  rw [e1]
  unfold f_X1_meanGain_48
  have N1 := Now_c hN A1
  have hn3 := N1.2.1.2.2.2
  have fin : f_X1_meanGain_126 v (aM s (gS n s r) (2 ^ n)) M1 = some (frac d (facN n) (aM s (gS n s r) (2 ^ n)) v, M1) := by
    unfold f_X1_meanGain_126
    rw [hn3, c_fac hn]
    simp only [Option.bind_some]
    rw [c_side hx (by omega) (fac_pos n (by omega)).1 (fac_pos n (by omega)).2]
    rfl
  refine loopF (fun f T (x : Int32) => f_X1_meanGain_54 f (nI s) v (nI (2 ^ n - 1)) x (nI T) M1) (2 ^ n) (fun T => aC s (gS n s r) T) _ ?_ ?_ 100 (by omega)
  · intro f T hT
    have T64 : T < 64 := by omega
    show f_X1_meanGain_54 (f + 1) (nI s) v (nI (2 ^ n - 1)) (aC s (gS n s r) T) (nI T) M1 = f_X1_meanGain_54 f (nI s) v (nI (2 ^ n - 1)) (if T.testBit s = true then aC s (gS n s r) T + gS n s r (T - 2 ^ s) else aC s (gS n s r) T) (nI (T + 1)) M1
    have step : ∀ x, f_X1_meanGain_120 (f_X1_meanGain_54 f) (nI s) v (nI (2 ^ n - 1)) x (nI T) M1 = f_X1_meanGain_54 f (nI s) v (nI (2 ^ n - 1)) x (nI (T + 1)) M1 := fun x => by
      unfold f_X1_meanGain_120
      rw [lt_, nI_add1]
    rw [f_X1_meanGain_54, if_neg (nI_nlt (by omega) (by omega)), if_neg (show ¬ (64 : Int32) ≤ nI T from fun q => absurd ((nI_leI (a := 64) (by decide) (by omega)).mp q) (by omega))]
    by_cases hb : T.testBit s = true
    · obtain ⟨p1, p2, p3⟩ := F1a s (by omega) T T64 hb
      have p4 := F1b n (by omega) T hT
      have p5 : T - 2 ^ s ≤ T := Nat.sub_le _ _
      rw [if_pos ((bt_iff (by omega) (by omega)).mpr hb), if_gd T64 (by decide), lt_, p2, if_gd (show T - 2 ^ s < 64 by omega) (by decide), tn_nI (by omega), tn_nI (by omega), t1 T hT, t1 (T - 2 ^ s) (by omega), lt_, c_bitCount (by omega)]
      simp only [Option.bind_some]
      unfold f_X1_ordersOf
      rw [hn3, show nI (pop T) - 1 = nI (pop T - 1) from pk_sub (b := 1) (by omega), pk_sub p4, c_fac (by omega), c_fac (by omega)]
      simp only [Option.bind_some]
      rw [lt_, step, if_pos hb, pk_mul]
      unfold gS wS
      rw [p3, show pop (T - 2 ^ s) = pop T - 1 by omega, show n - 1 - (pop T - 1) = n - pop T by omega]
    · rw [if_neg (fun q => hb ((bt_iff (by omega) (by omega)).mp q)), step, if_neg hb]
  · intro f
    show f_X1_meanGain_54 (f + 1) (nI s) v (nI (2 ^ n - 1)) (aC s (gS n s r) (2 ^ n)) (nI (2 ^ n)) M1 = _
    rw [f_X1_meanGain_54, if_pos (nI_lt (full_lt n) (by omega)), aC_aM hn hs, fin]
theorem m_share {M : Mem} {n s d : Nat} {v : Int32} {vo ra ki se go no : Nat → Nat} {he ba : Nat} (hN : Now M n vo ra ki se go no he ba) (hs : s < n) (hd : d < 2 ^ 30) (hx : (if 0 ≤ aM s (gS n s (rsF n vo ra ki se go no he 6)) (2 ^ n) then aM s (gS n s (rsF n vo ra ki se go no he 6)) (2 ^ n) else -aM s (gS n s (rsF n vo ra ki se go no he 6)) (2 ^ n)) = nI d) : ∃ M', f_X10_share_15 100 (nI s) v 0 0 M = some (frac d (facN n) (aM s (gS n s (rsF n vo ra ki se go no he 6)) (2 ^ n)) v, M') ∧ QM M M' := by
  have hn := hN.1.1
  have h64 := two6 hn
  obtain ⟨r, hr⟩ : ∃ r, r = rsF n vo ra ki se go no he 6 := ⟨_, rfl⟩
  rw [← hr] at hx ⊢
  refine loopE (fun f T (y : Int32 × Mem) => f_X10_share_15 f (nI s) v y.1 (nI T) y.2) (2 ^ n) (fun T y => y.1 = aM s (gS n s r) T ∧ QM M y.2) (fun x => ∃ M', x = some (frac d (facN n) (aM s (gS n s r) (2 ^ n)) v, M') ∧ QM M M') ?_ ?_ (2 ^ n) 0 (by omega) 100 (0, M) (by omega) ⟨rfl, QM.rf⟩
  · rintro f T ⟨x, M1⟩ hT ⟨hx1, Q1⟩
    simp only at hx1 Q1
    subst hx1
    left
    have N1 := Now_m hN Q1
    have hn0 := N1.2.2.1.2.2.2
    have step : ∀ (x : Int32) (M5 : Mem), f_X10_share_88 (f_X10_share_15 f) (nI s) v x (nI T) M5 = f_X10_share_15 f (nI s) v x (nI (T + 1)) M5 := fun x M5 => by
      unfold f_X10_share_88
      rw [lt_, nI_add1]
    have top : f_X10_share_15 (f + 1) (nI s) v (aM s (gS n s r) T) (nI T) M1 = (f_X10_has (nI T) (nI s) M1).bind (fun q8 => if q8 = 0 then (f_X10_ones (nI T) M1).bind (fun q10 => (f_X10_factorial q10 M1).bind (fun q11 => (f_X10_ones (nI T) M1).bind (fun q12 => (f_X10_factorial ((nI n - (1 : Int32)) - q12) M1).bind (fun q13 => lt_ (q11 * q13) (fun x14 => (f_X10_notesOf (nI T ||| ((1 : Int32) <<< (nI s &&& 31))) 6 M1).bind (fun q15 => (f_X10_notesOf (nI T) 6 q15.2).bind (fun q16 => lt_ (aM s (gS n s r) T + (x14 * (q15.1 - q16.1))) (fun x17 => f_X10_share_88 (f_X10_share_15 f) (nI s) v x17 (nI T) q16.2)))))))) else f_X10_share_88 (f_X10_share_15 f) (nI s) v (aM s (gS n s r) T) (nI T) M1) := by
      rw [f_X10_share_15, hn0, shl1 (by omega), if_neg (nI_ge hT (by omega))]
    by_cases hb : T.testBit s = true
    · refine ⟨(aM s (gS n s r) (T + 1), M1), ?_, rfl, Q1⟩
      show f_X10_share_15 (f + 1) (nI s) v (aM s (gS n s r) T) (nI T) M1 = f_X10_share_15 f (nI s) v (if T.testBit s = true then aM s (gS n s r) T else aM s (gS n s r) T + gS n s r T) (nI (T + 1)) M1
      rw [top, m_has (by omega) (by omega)]
      simp only [Option.bind_some, if_b2]
      rw [if_pos hb, if_pos hb, step]
    · have hb' : T.testBit s = false := by simpa using hb
      obtain ⟨p1, p2, p3⟩ := F2 n (by omega) s hs T hT hb'
      obtain ⟨M2, e2, Q2⟩ := m_some (m := 6) N1 p3 (by decide)
      obtain ⟨M3, e3, Q3⟩ := m_some (m := 6) (Now_m N1 Q2) hT (by decide)
      refine ⟨(aM s (gS n s r) (T + 1), M3), ?_, rfl, (Q1.tr Q2).tr Q3⟩
      show f_X10_share_15 (f + 1) (nI s) v (aM s (gS n s r) T) (nI T) M1 = f_X10_share_15 f (nI s) v (if T.testBit s = true then aM s (gS n s r) T else aM s (gS n s r) T + gS n s r T) (nI (T + 1)) M3
      rw [top, m_has (by omega) (by omega)]
      simp only [Option.bind_some, if_b2]
      rw [if_neg hb, if_neg hb, m_ones (by omega)]
      simp only [Option.bind_some]
      rw [m_fac (by omega)]
      simp only [Option.bind_some]
      rw [show nI n - 1 = nI (n - 1) from pk_sub (b := 1) (by omega), pk_sub p1, m_fac (by omega)]
      simp only [Option.bind_some]
      rw [lt_, shl1 (by omega), nI_or, p2, show f_X10_notesOf (nI (T + 2 ^ s)) 6 M1 = _ from e2]
      simp only [Option.bind_some]
      rw [show f_X10_notesOf (nI T) 6 M2 = _ from e3]
      simp only [Option.bind_some]
      rw [lt_, step, pk_mul, Int32.mul_comm]
      unfold gS wS
      rw [hr]
  · rintro f ⟨x, M1⟩ ⟨hx1, Q1⟩
    simp only at hx1 Q1
    subst hx1
    have hn0 := (Now_m hN Q1).2.2.1.2.2.2
    refine ⟨M1, ?_, Q1⟩
    show f_X10_share_15 (f + 1) (nI s) v (aM s (gS n s r) (2 ^ n)) (nI (2 ^ n)) M1 = _
    have g := gcd_pos (d := d) (fac_pos n (by omega)).1 (by have := (fac_pos n (by omega)).2; omega)
    rw [f_X10_share_15, hn0, shl1 (by omega), if_pos (nI_le (Nat.le_refl _) (by omega)), m_fac hn]
    simp only [Option.bind_some]
    rw [m_common hx (by omega) (fac_pos n (by omega)).2]
    simp only [Option.bind_some, if_pos g]
    unfold f_X10_share_128 frac
    split <;> rfl
theorem op_share (v w : Int32) : Op (f_X9_share v w) (f_X10_share v w) := by
  intro M hI
  obtain ⟨⟨n, vo, ra, ki, se, go, no, he, ba, hN, -, -⟩, -, -, -⟩ := id hI
  have hn := hN.1.1
  unfold f_X9_share f_X10_share f_X9_share_24
  rw [c_isSinger hN.2.2.2.2.1.2.2.2.1 hn]
  simp only [Option.bind_some, if_b2]
  by_cases h : isS n v = true
  · obtain ⟨s, hs, rfl⟩ := isS_true hn h
    have h64 := two6 hn
    obtain ⟨d, hd, d1, d2⟩ := Bd_abs (aM_bd (s := s) (r := rsF n vo ra ki se go no he 6) hn (fun T => rs_lt) (2 ^ n) h64) (by omega)
    refine opQ hI (r := frac d (facN n) (aM s (gS n s (rsF n vo ra ki se go no he 6)) (2 ^ n)) w) ?_ ?_
    · obtain ⟨M', e', A'⟩ := c_share (v := w) hN hs (by omega) d1
      refine ⟨M', ?_, A'⟩
      rw [if_pos h, e']
      rfl
    · intro M1 A1
      have N1 := Now_c hN A1
      obtain ⟨M', e', Q'⟩ := m_share (v := w) N1 hs (by omega) d2
      refine ⟨M', ?_, Q'⟩
      rw [m_isSinger N1.2.2.1.2.2.2 hn]
      simp only [Option.bind_some, if_b2]
      rw [if_pos h, e']
  · refine ⟨-1, M, M, by rw [if_neg h], ?_, hI⟩
    rw [m_isSinger hN.2.2.1.2.2.2 hn]
    simp only [Option.bind_some, if_b2]
    rw [if_neg h]
