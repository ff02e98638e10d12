/-! two patrons -/
def cntN (n : Nat) (no : Nat → Nat) (x : Nat) : Nat := sumF (fun i => decide (no i = x)) (fun _ => 1) n
theorem sum1_le {P : Nat → Bool} : ∀ k, sumF P (fun _ => 1) k ≤ k := by
  intro k
  induction k with
  | zero => simp [sumF]
  | succ k ih => simp only [sumF]; split <;> omega
theorem c_howMany {M : Mem} {o n x : Nat} {se go no : Nat → Nat} {he ba : Nat} (h : cS M o n (2 ^ n - 1) se go no he ba) (ok : okS n (2 ^ n - 1) se go no he) (hn : n ≤ 6) (hx : x < 10) : f_X7_howManySing o (nI x) M = some (nI (cntN n no x)) := by
  have ht : 2 ^ n - 1 < 64 := Nat.lt_of_lt_of_le (full_lt n) (two6 hn)
  obtain ⟨P, hP⟩ : ∃ P : Nat → Bool, P = fun i => decide (i < n) && decide (no i = x) := ⟨_, rfl⟩
  have e6 : sumF P (fun _ => 1) 6 = cntN n no x := by
    rw [st6 hn (sumF_stop (P := P) (r := fun _ => 1) (fun i hi => by rw [hP]; simp; omega))]
    exact sumF_congr (fun i hi => by rw [hP]; simp [hi])
  unfold f_X7_howManySing
  rw [← e6]
  refine loopF (fun f i (y : Int32) => f_X7_howManySing_4 o M f (nI x) y (nI i)) 6 (fun k => nI (sumF P (fun _ => 1) k)) _ ?_ ?_ 100 (by decide)
  · intro f i hi
    have e0 : sumF P (fun _ => 1) (i + 1) = if P i = true then sumF P (fun _ => 1) i + 1 else sumF P (fun _ => 1) i := by rw [sumF]
    show f_X7_howManySing_4 o M (f + 1) (nI x) (nI (sumF P (fun _ => 1) i)) (nI i) = f_X7_howManySing_4 o M f (nI x) (nI (sumF P (fun _ => 1) (i + 1))) (nI (i + 1))
    rw [f_X7_howManySing_4, if_neg (n6i hi), c_isThere h.2.2.2.1 ht (by omega), tb_full]
    simp only [Option.bind_some, if_b2, if_gd hi (show 6 < 2 ^ 31 by decide)]
    unfold f_X7_howManySing_31
    simp only [lt_, nI_add1]
    rw [tn_nI (by omega), e0]
    by_cases c : i < n
    · rw [if_pos (by simpa using c), h.2.2.1 i c]
      have := (ok.2.1 i c).2.2
      have k1 : (nI (no i) = nI x) = (no i = x) := eq_nI (by omega) (by omega)
      simp only [k1]
      by_cases c2 : no i = x
      · rw [if_pos c2, if_pos (by rw [hP]; simp [c, c2])]
      · rw [if_neg c2, if_neg (by rw [hP]; simp [c2])]
    · rw [if_neg (by simpa using c), if_neg (by rw [hP]; simp [c])]
  · intro f
    show f_X7_howManySing_4 o M (f + 1) (nI x) _ (nI 6) = _
    rw [f_X7_howManySing_4, if_pos (show (6 : Int32) ≤ nI 6 from by decide)]
def gnF (n : Nat) (vo ra ki se go no : Nat → Nat) (he x a b : Nat) : Nat := cntN n (itr n (2 ^ n - 1) vo ra ki se (giveF (giveF go a 4) b 4) no he 6) (vo x)
theorem gn_le {n : Nat} {vo ra ki se go no : Nat → Nat} {he x a b : Nat} : gnF n vo ra ki se go no he x a b ≤ n := sum1_le n
theorem c_gac {M : Mem} {n p q a b : Nat} {vo ra ki se go no : Nat → Nat} {he ba : Nat} (hN : Now M n vo ra ki se go no he ba) (hp : p < n) (hq : q < n) (ha : a < n) (hb : b < n) : ∃ M', f_X1_giveAndCount (nI p) (nI q) (nI a) (nI b) M = some M' ∧ Alk PC M M' ∧ M'.1 25 2 = upd (M.1 25 2) (6 * a + b) (nI (gnF n vo ra ki se go no he p a b)) ∧ M'.1 25 3 = upd (M.1 25 3) (6 * a + b) (nI (gnF n vo ra ki se go no he q a b)) := by
  obtain ⟨oR, hcR, hmR, ok, hcS, hmS, hTh⟩ := id hN
  have hn := oR.1
  obtain ⟨M1, e1, A1, S1⟩ := c_copy (o := 1) (o1 := 0) (by decide) hcS hn
  obtain ⟨M2, e2, A2, S2⟩ := c_give (k := 4) S1 hn ha (ok.2.1 a ha).2.1 (by decide)
  have ok2 := okS_give (s := a) (k := 4) ok
  obtain ⟨M3, e3, A3, S3⟩ := c_give (k := 4) S2 hn hb (ok2.2.1 b hb).2.1 (by decide)
  have ok3 := okS_give (s := b) (k := 4) ok2
  have R3 : cR M3 n vo ra ki := cR_alk (cR_alk (cR_alk hcR A1 (fun b e => by omega)) A2 (fun b e => by omega)) A3 (fun b e => by omega)
  obtain ⟨M4, e4, A4, S4⟩ := c_goOn (m := 6) R3 oR S3 ok3 (by decide) (by decide)
  have ok4 := okS_itr oR ok3 6
  have R4 := cR_alk R3 A4 (fun b e => by omega)
  have A14 : Alk (fun a _ => a = 1) M M4 := (((A1.wk (fun a b e => e.1)).tr (A2.wk (fun a b e => e.1))).tr (A3.wk (fun a b e => e.1))).tr (A4.wk (fun a b e => e.1))
  have ix : nI a * (6 : Int32) + nI b = nI (6 * a + b) := by rw [show nI a * (6 : Int32) = nI (a * 6) from pk_mul a 6, nI_add, Nat.mul_comm]
  have A5 : Alk (fun x y => x = 25 ∧ y = 2) M4 (sw M4 25 2 (6 * a + b) (nI (gnF n vo ra ki se go no he p a b))) := Alk.sw ⟨rfl, rfl⟩
  have S5 := cS_alk S4 A5 (fun b _ e => by omega)
  have R5 := cR_alk R4 A5 (fun b e => by omega)
  refine ⟨sw (sw M4 25 2 (6 * a + b) (nI (gnF n vo ra ki se go no he p a b))) 25 3 (6 * a + b) (nI (gnF n vo ra ki se go no he q a b)), ?_, ((A14.wk (fun a b e => Or.inl e)).tr (A5.wk (fun a b e => by omega))).tr (Alk.sw (Or.inr (Or.inr rfl))), ?_, ?_⟩
  · unfold f_X1_giveAndCount
    rw [e1]
    simp only [Option.bind_some]
    rw [show f_X7_give 1 (nI a) 4 M1 = _ from e2]
    simp only [Option.bind_some]
    rw [show f_X7_give 1 (nI b) 4 M2 = _ from e3]
    simp only [Option.bind_some]
    rw [show f_X7_goOn 1 6 M3 = _ from e4]
    simp only [Option.bind_some]
    rw [if_gd (show p < 6 by omega) (by decide), tn_nI (by omega), R4.1 p hp, c_howMany S4 ok4 hn (oR.2 p hp).1]
    simp only [Option.bind_some]
    rw [lt_, ix, if_gd (show 6 * a + b < 36 by omega) (by decide), lt_, if_gd (show q < 6 by omega) (by decide), tn_nI (show q < 2 ^ 31 by omega), tn_nI (show 6 * a + b < 2 ^ 31 by omega), show cntN n (itr n (2 ^ n - 1) vo ra ki se (giveF (giveF go a 4) b 4) no he 6) (vo p) = gnF n vo ra ki se go no he p a b from rfl, R5.1 q hq, c_howMany S5 ok4 hn (oR.2 q hq).1]
    simp only [Option.bind_some]
    rw [lt_, if_gd (show 6 * a + b < 36 by omega) (by decide), lt_, tn_nI (show 6 * a + b < 2 ^ 31 by omega)]
    rfl
  · rw [sw_ne (by omega), sw_same, A14.1 25 2 (by omega)]
  · rw [sw_same, A5.1 25 3 (by omega), A14.1 25 3 (by omega)]
theorem m_gain {M : Mem} {n x a b : Nat} {vo ra ki se go no : Nat → Nat} {he ba : Nat} (hN : Now M n vo ra ki se go no he ba) (hx : x < n) (ha : a < n) (hb : b < n) : ∃ M', f_X10_gain (nI x) (nI a) (nI b) M = some (nI (gnF n vo ra ki se go no he x a b), M') ∧ QM M M' := by
  obtain ⟨oR, hcR, hmR, ok, hcS, hmS, hTh⟩ := id hN
  have hn := oR.1
  obtain ⟨M1, e1, Q1, S1, R1, T1⟩ := m_layQ hN
  obtain ⟨M2, e2, Q2, S2, R2, T2⟩ := m_giveQ (k := 4) S1 R1 T1 hn ha (ok.2.1 a ha).2.1 (by decide)
  have ok2 := okS_give (s := a) (k := 4) ok
  obtain ⟨M3, e3, Q3, S3, R3, T3⟩ := m_giveQ (k := 4) S2 R2 T2 hn hb (ok2.2.1 b hb).2.1 (by decide)
  have ok3 := okS_give (s := b) (k := 4) ok2
  obtain ⟨M4, e4, Q4, n4, -⟩ := m_run (m := 6) oR R3 S3 T3 (okS_B ok3) (by decide)
  have Q14 := ((Q1.tr Q2).tr Q3).tr Q4
  have R4 := (Now_m hN Q14).2.2.1
  have ok4 := okS_itr oR ok3 6
  refine ⟨M4, ?_, Q14⟩
  unfold f_X10_gain
  rw [e1]
  simp only [Option.bind_some]
  rw [show f_X10_giveOn 1 (nI a) 4 M1 = _ from e2]
  simp only [Option.bind_some]
  rw [show f_X10_giveOn 1 (nI b) 4 M2 = _ from e3]
  simp only [Option.bind_some]
  rw [show f_X10_goOn 6 M3 = _ from e4]
  simp only [Option.bind_some]
  obtain ⟨N, hN'⟩ : ∃ N, N = itr n (2 ^ n - 1) vo ra ki se (giveF (giveF go a 4) b 4) no he 6 := ⟨_, rfl⟩
  rw [← hN'] at n4 ok4
  unfold gnF cntN
  rw [← hN']
  refine loopF (fun f i (y : Int32) => f_X10_gain_30 f (nI x) y (nI i) M4) n (fun k => nI (sumF (fun i => decide (N i = vo x)) (fun _ => 1) k)) _ ?_ ?_ 100 (by omega)
  · intro f i hi
    have e0 : sumF (fun i => decide (N i = vo x)) (fun _ => 1) (i + 1) = if decide (N i = vo x) = true then sumF (fun i => decide (N i = vo x)) (fun _ => 1) i + 1 else sumF (fun i => decide (N i = vo x)) (fun _ => 1) i := by rw [sumF]
    show f_X10_gain_30 (f + 1) (nI x) (nI (sumF (fun i => decide (N i = vo x)) (fun _ => 1) i)) (nI i) M4 = f_X10_gain_30 f (nI x) (nI (sumF (fun i => decide (N i = vo x)) (fun _ => 1) (i + 1))) (nI (i + 1)) M4
    rw [f_X10_gain_30, R4.2.2.2, if_neg (nI_ge hi (by omega)), lt_, show (32 : Int32) + nI i = nI (32 + i) from nI_add 32 _, if_gd (show 32 + i < 40 by omega) (by decide), if_gd (show x < 6 by omega) (by decide), tn_nI (by omega), tn_nI (by omega), n4 i hi, R4.1 x hx]
    have := (ok4.2.1 i hi).2.2
    have := (oR.2 x hx).1
    have k1 : (nI (N i) = nI (vo x)) = (N i = vo x) := eq_nI (by omega) (by omega)
    simp only [k1]
    unfold f_X10_gain_65
    rw [e0]
    by_cases c : N i = vo x
    · rw [if_pos c, if_pos (by simpa using c), lt_, lt_, nI_add1, nI_add1]
    · rw [if_neg c, if_neg (by simpa using c), lt_, lt_, nI_add1, show nI (sumF (fun i => decide (N i = vo x)) (fun _ => 1) i) + 0 = nI (sumF (fun i => decide (N i = vo x)) (fun _ => 1) i + 0) from nI_add _ 0]
      rfl
  · intro f
    show f_X10_gain_30 (f + 1) (nI x) _ (nI n) M4 = _
    rw [f_X10_gain_30, R4.2.2.2, if_pos (nI_le (Nat.le_refl n) (by omega))]
def rstP (n : Nat) (G H : Nat → Nat → Nat) (a b c : Nat) : Bool := decide (G c b ≤ G a b) && decide (H a c ≤ H a b)
def rstB (n : Nat) (G H : Nat → Nat → Nat) (a b : Nat) : Bool := allF (rstP n G H a b) n
def rtF (n : Nat) (G H : Nat → Nat → Nat) : Nat → Nat × Int32
  | 0 => (0, -9)
  | k + 1 => if rstB n G H (k / n) (k % n) = true then ((rtF n G H k).1 + 1, if (rtF n G H k).1 = 0 then nI (10 * (k / n) + k % n) else (rtF n G H k).2) else rtF n G H k
theorem rtF_step {n a b : Nat} {G H : Nat → Nat → Nat} (hb : b < n) : rtF n G H (a * n + (b + 1)) = if rstB n G H a b = true then ((rtF n G H (a * n + b)).1 + 1, if (rtF n G H (a * n + b)).1 = 0 then nI (10 * a + b) else (rtF n G H (a * n + b)).2) else rtF n G H (a * n + b) := by
  have d := dm (a := a) hb
  have e : rtF n G H (a * n + b + 1) = if rstB n G H ((a * n + b) / n) ((a * n + b) % n) = true then ((rtF n G H (a * n + b)).1 + 1, if (rtF n G H (a * n + b)).1 = 0 then nI (10 * ((a * n + b) / n) + (a * n + b) % n) else (rtF n G H (a * n + b)).2) else rtF n G H (a * n + b) := by rw [rtF]
  rw [← Nat.add_assoc, e, d.1, d.2]
theorem rtF_le {n : Nat} {G H : Nat → Nat → Nat} : ∀ k, (rtF n G H k).1 ≤ k := by
  intro k
  induction k with
  | zero => exact Nat.le_refl 0
  | succ k ih =>
    unfold rtF
    split
    · simp only; omega
    · omega
def Tab (M : Mem) (n : Nat) (G H : Nat → Nat → Nat) : Prop := ∀ a, a < n → ∀ b, b < n → M.1 25 2 (6 * a + b) = nI (G a b) ∧ M.1 25 3 (6 * a + b) = nI (H a b)
theorem c_atRest {M : Mem} {n a b : Nat} {G H : Nat → Nat → Nat} (hT : Tab M n G H) (hG : ∀ a b, G a b ≤ n) (hH : ∀ a b, H a b ≤ n) (h3 : M.1 19 0 3 = nI n) (hn : n ≤ 6) (ha : a < n) (hb : b < n) : f_X1_isAtRest (nI a) (nI b) M = some (b2 (rstB n G H a b)) := by
  have ix : ∀ x y : Nat, nI x * (6 : Int32) + nI y = nI (6 * x + y) := fun x y => by rw [show nI x * (6 : Int32) = nI (x * 6) from pk_mul x 6, nI_add, Nat.mul_comm]
  unfold f_X1_isAtRest
  rw [lt_, ix]
  have := loopE (fun f c (_ : Unit) => f_X1_isAtRest_10 M f (nI a) (nI b) (nI (6 * a + b)) (nI c)) n (fun c _ => allF (rstP n G H a b) c = true) (fun r => r = some (b2 (rstB n G H a b))) ?_ ?_ n 0 (by omega) 100 () (by omega) rfl
  · exact this
  · rintro f c _ hc hA
    show (∃ s' : Unit, f_X1_isAtRest_10 M (f + 1) (nI a) (nI b) (nI (6 * a + b)) (nI c) = _ ∧ _) ∨ f_X1_isAtRest_10 M (f + 1) (nI a) (nI b) (nI (6 * a + b)) (nI c) = _
    have g1 := hG a b
    have g2 := hG c b
    have g3 := hH a b
    have g4 := hH a c
    rw [f_X1_isAtRest_10, h3, if_neg (nI_ge hc (by omega)), lt_, ix, if_gd (show 6 * c + b < 36 by omega) (by decide), if_gd (show 6 * a + b < 36 by omega) (by decide), lt_, ix, if_gd (show 6 * a + c < 36 by omega) (by decide), if_gd (show 6 * a + b < 36 by omega) (by decide), lt_, nI_add1, tn_nI (show 6 * a + b < 2 ^ 31 by omega), tn_nI (show 6 * c + b < 2 ^ 31 by omega), tn_nI (show 6 * a + c < 2 ^ 31 by omega), (hT a ha b hb).1, (hT c hc b hb).1, (hT a ha b hb).2, (hT a ha c hc).2]
    have k1 : (nI (G a b) < nI (G c b)) = (G a b < G c b) := lt_nI (by omega) (by omega)
    have k2 : (nI (H a c) ≤ nI (H a b)) = (H a c ≤ H a b) := le_nI (by omega) (by omega)
    simp only [k1, k2]
    unfold f_X1_isAtRest_64
    by_cases c1 : G a b < G c b
    · right
      rw [if_pos c1]
      unfold rstB
      rw [allF_miss hc (by unfold rstP; simp; omega)]
      rfl
    · rw [if_neg c1]
      by_cases c2 : H a c ≤ H a b
      · left
        refine ⟨(), by rw [if_pos c2], ?_⟩
        simp only [allF, hA, Bool.true_and]
        unfold rstP
        simp
        omega
      · right
        rw [if_neg c2]
        unfold rstB
        rw [allF_miss hc (by unfold rstP; simp; omega)]
        rfl
  · rintro f _ hA
    show f_X1_isAtRest_10 M (f + 1) (nI a) (nI b) (nI (6 * a + b)) (nI n) = _
    rw [f_X1_isAtRest_10, h3, if_pos (nI_le (Nat.le_refl n) (by omega))]
    unfold rstB
    rw [hA]
    rfl
theorem c_rests {M : Mem} {n p q w : Nat} {vo ra ki se go no : Nat → Nat} {he ba : Nat} (hN : Now M n vo ra ki se go no he ba) (hp : p < n) (hq : q < n) (hw : w < 2) {r : Int32} (hr : r = if w = 0 then nI (rtF n (gnF n vo ra ki se go no he p) (gnF n vo ra ki se go no he q) (n * n)).1 else (rtF n (gnF n vo ra ki se go no he p) (gnF n vo ra ki se go no he q) (n * n)).2) : ∃ M', f_X1_restingPairs (nI p) (nI q) (nI w) M = some (r, M') ∧ Alk PC M M' := by
  have hn := hN.1.1
  obtain ⟨G, hG⟩ : ∃ G, G = gnF n vo ra ki se go no he p := ⟨_, rfl⟩
  obtain ⟨H, hH⟩ : ∃ H, H = gnF n vo ra ki se go no he q := ⟨_, rfl⟩
  rw [← hG, ← hH] at hr
  have lG : ∀ a b, G a b ≤ n := fun a b => by rw [hG]; exact gn_le
  have lH : ∀ a b, H a b ≤ n := fun a b => by rw [hH]; exact gn_le
  have kw : (nI w = 0) = (w = 0) := eq_nI (b := 0) (by omega) (by decide)
  have tab : ∃ M', f_X1_restingPairs (nI p) (nI q) (nI w) M = f_X1_restingPairs_62 100 (nI w) 0 (-9) 0 M' ∧ Alk PC M M' ∧ Tab M' n G H := by
    unfold f_X1_restingPairs
    refine loopE (fun f a (M1 : Mem) => f_X1_restingPairs_3 f (nI p) (nI q) (nI w) (nI a) M1) n (fun a M1 => Alk PC M M1 ∧ ∀ x, x < a → ∀ y, y < n → M1.1 25 2 (6 * x + y) = nI (G x y) ∧ M1.1 25 3 (6 * x + y) = nI (H x y)) (fun r => ∃ M', r = f_X1_restingPairs_62 100 (nI w) 0 (-9) 0 M' ∧ Alk PC M M' ∧ Tab M' n G H) ?_ ?_ n 0 (by omega) 100 M (by omega) ⟨Alk.rf, fun x hx => absurd hx (by omega)⟩
    · rintro f a M1 ha ⟨A1, t1⟩
      left
      have inner : ∃ M', f_X1_restingPairs_18 (f_X1_restingPairs_3 f) 100 (nI p) (nI q) (nI w) (nI a) 0 M1 = f_X1_restingPairs_3 f (nI p) (nI q) (nI w) (nI (a + 1)) M' ∧ Alk PC M M' ∧ ∀ x, x < a + 1 → ∀ y, y < n → M'.1 25 2 (6 * x + y) = nI (G x y) ∧ M'.1 25 3 (6 * x + y) = nI (H x y) := by
        refine loopE (fun g b (M2 : Mem) => f_X1_restingPairs_18 (f_X1_restingPairs_3 f) g (nI p) (nI q) (nI w) (nI a) (nI b) M2) n (fun b M2 => Alk PC M M2 ∧ ∀ x y, y < n → (x < a ∨ (x = a ∧ y < b)) → M2.1 25 2 (6 * x + y) = nI (G x y) ∧ M2.1 25 3 (6 * x + y) = nI (H x y)) (fun r => ∃ M', r = f_X1_restingPairs_3 f (nI p) (nI q) (nI w) (nI (a + 1)) M' ∧ Alk PC M M' ∧ ∀ x, x < a + 1 → ∀ y, y < n → M'.1 25 2 (6 * x + y) = nI (G x y) ∧ M'.1 25 3 (6 * x + y) = nI (H x y)) ?_ ?_ n 0 (by omega) 100 M1 (by omega) ⟨A1, fun x y hy hxy => t1 x (by omega) y hy⟩
        · rintro g b M2 hb ⟨A2, t2⟩
          left
          have N2 := Now_c hN A2
          obtain ⟨M3, e3, A3, u2, u3⟩ := c_gac N2 hp hq ha hb
          rw [← hG] at u2
          rw [← hH] at u3
          refine ⟨M3, ?_, A2.tr A3, fun x y hy hxy => ?_⟩
          · show f_X1_restingPairs_18 (f_X1_restingPairs_3 f) (g + 1) (nI p) (nI q) (nI w) (nI a) (nI b) M2 = _
            rw [f_X1_restingPairs_18, N2.2.1.2.2.2, if_neg (nI_ge hb (by omega)), e3]
            simp only [Option.bind_some]
            rw [lt_, nI_add1]
          · rw [u2, u3]
            by_cases e : x = a ∧ y = b
            · rw [e.1, e.2, upd_same, upd_same]; exact ⟨rfl, rfl⟩
            · rw [upd_ne (by omega), upd_ne (by omega)]
              exact t2 x y hy (by omega)
        · rintro g M2 ⟨A2, t2⟩
          refine ⟨M2, ?_, A2, fun x hx y hy => t2 x y hy (by omega)⟩
          show f_X1_restingPairs_18 (f_X1_restingPairs_3 f) (g + 1) (nI p) (nI q) (nI w) (nI a) (nI n) M2 = _
          rw [f_X1_restingPairs_18, (Now_c hN A2).2.1.2.2.2, if_pos (nI_le (Nat.le_refl n) (by omega)), lt_, nI_add1]
      obtain ⟨M', e', h'⟩ := inner
      refine ⟨M', ?_, h'⟩
      show f_X1_restingPairs_3 (f + 1) (nI p) (nI q) (nI w) (nI a) M1 = _
      rw [f_X1_restingPairs_3, (Now_c hN A1).2.1.2.2.2, if_neg (nI_ge ha (by omega))]
      exact e'
    · rintro f M1 ⟨A1, t1⟩
      refine ⟨M1, ?_, A1, fun a ha b hb => t1 a ha b hb⟩
      show f_X1_restingPairs_3 (f + 1) (nI p) (nI q) (nI w) (nI n) M1 = _
      rw [f_X1_restingPairs_3, (Now_c hN A1).2.1.2.2.2, if_pos (nI_le (Nat.le_refl n) (by omega))]
  obtain ⟨M1, e1, A1, T1⟩ := tab
  rw [e1]
  have h3 := (Now_c hN A1).2.1.2.2.2
  refine ⟨M1, ?_, A1⟩
  have inner : ∀ a, a < n → ∀ k62 : Int32 → Int32 → Int32 → Int32 → Mem → Option (Int32 × Mem), f_X1_restingPairs_77 k62 100 (nI w) (nI (rtF n G H (a * n)).1) (rtF n G H (a * n)).2 (nI a) 0 M1 = k62 (nI w) (nI (rtF n G H ((a + 1) * n)).1) (rtF n G H ((a + 1) * n)).2 (nI (a + 1)) M1 := by
    intro a ha k62
    refine loopF (fun f b (s : Nat × Int32) => f_X1_restingPairs_77 k62 f (nI w) (nI s.1) s.2 (nI a) (nI b) M1) n (fun b => rtF n G H (a * n + b)) _ ?_ ?_ 100 (by omega)
    · intro f b hb
      show f_X1_restingPairs_77 k62 (f + 1) (nI w) (nI (rtF n G H (a * n + b)).1) (rtF n G H (a * n + b)).2 (nI a) (nI b) M1 = f_X1_restingPairs_77 k62 f (nI w) (nI (rtF n G H (a * n + (b + 1))).1) (rtF n G H (a * n + (b + 1))).2 (nI a) (nI (b + 1)) M1
      rw [rtF_step hb]
      have nn : a * n + b < n * n := Nat.lt_of_lt_of_le (show a * n + b < a * n + n by omega) (by rw [← Nat.succ_mul]; exact Nat.mul_le_mul_right n ha)
      have n36 : n * n ≤ 36 := Nat.mul_le_mul hn hn
      obtain ⟨s, hs⟩ : ∃ s, s = rtF n G H (a * n + b) := ⟨_, rfl⟩
      have sle : s.1 ≤ a * n + b := by rw [hs]; exact rtF_le _
      rw [← hs, f_X1_restingPairs_77, h3, if_neg (nI_ge hb (by omega)), c_atRest T1 lG lH h3 hn ha hb]
      simp only [Option.bind_some, if_b2]
      unfold f_X1_restingPairs_118 f_X1_restingPairs_123
      have k1 : (nI s.1 = 0) = (s.1 = 0) := eq_nI (b := 0) (by omega) (by decide)
      simp only [lt_, nI_add1, k1]
      rw [show (10 : Int32) * nI a = nI (10 * a) from pk_mul 10 a, nI_add]
      by_cases c : rstB n G H a b = true
      · rw [if_pos c, if_pos c]
        by_cases c0 : s.1 = 0
        · rw [if_pos c0, if_pos c0]
        · rw [if_neg c0, if_neg c0]
      · rw [if_neg c, if_neg c]
    · intro f
      show f_X1_restingPairs_77 k62 (f + 1) (nI w) (nI (rtF n G H (a * n + n)).1) (rtF n G H (a * n + n)).2 (nI a) (nI n) M1 = _
      rw [f_X1_restingPairs_77, h3, if_pos (nI_le (Nat.le_refl n) (by omega)), lt_, nI_add1, show (a + 1) * n = a * n + n by rw [Nat.add_mul, Nat.one_mul]]
  have outer : f_X1_restingPairs_62 100 (nI w) (nI (rtF n G H (0 * n)).1) (rtF n G H (0 * n)).2 0 M1 = some (r, M1) := by
    refine loopF (fun f a (s : Nat × Int32) => f_X1_restingPairs_62 f (nI w) (nI s.1) s.2 (nI a) M1) n (fun a => rtF n G H (a * n)) _ ?_ ?_ 100 (by omega)
    · intro f a ha
      show f_X1_restingPairs_62 (f + 1) (nI w) (nI (rtF n G H (a * n)).1) (rtF n G H (a * n)).2 (nI a) M1 = _
      rw [f_X1_restingPairs_62, h3, if_neg (nI_ge ha (by omega))]
      exact inner a ha _
    · intro f
      show f_X1_restingPairs_62 (f + 1) (nI w) (nI (rtF n G H (n * n)).1) (rtF n G H (n * n)).2 (nI n) M1 = _
      rw [f_X1_restingPairs_62, h3, if_pos (nI_le (Nat.le_refl n) (by omega)), hr]
      unfold f_X1_restingPairs_146
      simp only [kw]
      split <;> rfl
  rw [Nat.zero_mul] at outer
  exact outer
