/-- the first that is so -/
def fstM (P : Nat → Bool) : Nat → Option Nat
  | 0 => none
  | k + 1 => match fstM P k with
    | some j => some j
    | none => if P k = true then some k else none
theorem fstM_hit {P : Nat → Bool} {i : Nat} (h : fstM P i = none) (hp : P i = true) : ∀ d, fstM P (i + 1 + d) = some i := by
  intro d
  induction d with
  | zero => simp [fstM, h, hp]
  | succ d ih => show fstM P (i + 1 + d + 1) = _; simp [fstM, ih]
theorem fstM_miss {P : Nat → Bool} {i : Nat} (h : fstM P i = none) (hp : ¬ P i = true) : fstM P (i + 1) = none := by simp [fstM, h, hp]
theorem fstM_stop {P : Nat → Bool} {n : Nat} (h : ∀ i, n ≤ i → P i = false) : ∀ d, fstM P (n + d) = fstM P n := by
  intro d
  induction d with
  | zero => rfl
  | succ d ih =>
    have e : fstM P (n + d + 1) = match fstM P (n + d) with
      | some j => some j
      | none => if P (n + d) = true then some (n + d) else none := rfl
    rw [show n + (d + 1) = n + d + 1 from rfl, e, ih, h (n + d) (by omega)]
    cases fstM P n <;> simp
theorem fstM_congr {P Q : Nat → Bool} : ∀ {k : Nat}, (∀ i, i < k → P i = Q i) → fstM P k = fstM Q k := by
  intro k
  induction k with
  | zero => intro _; rfl
  | succ k ih => intro h; simp only [fstM, ih (fun i hi => h i (by omega)), h k (by omega)]
def sumF (P : Nat → Bool) (row : Nat → Nat) : Nat → Nat
  | 0 => 0
  | k + 1 => if P k = true then sumF P row k + row k else sumF P row k
theorem sumF_congr {P Q : Nat → Bool} {r : Nat → Nat} : ∀ {k : Nat}, (∀ i, i < k → P i = Q i) → sumF P r k = sumF Q r k := by
  intro k
  induction k with
  | zero => intro _; rfl
  | succ k ih => intro h; simp only [sumF, ih (fun i hi => h i (by omega)), h k (by omega)]
theorem sumF_stop {P : Nat → Bool} {r : Nat → Nat} {n : Nat} (h : ∀ i, n ≤ i → P i = false) : ∀ d, sumF P r (n + d) = sumF P r n := by
  intro d
  induction d with
  | zero => rfl
  | succ d ih =>
    have e : sumF P r (n + d + 1) = if P (n + d) = true then sumF P r (n + d) + r (n + d) else sumF P r (n + d) := rfl
    rw [show n + (d + 1) = n + d + 1 from rfl, e, ih, h (n + d) (by omega)]
    simp
theorem n6i {i : Nat} (hi : i < 6) : ¬ (6 : Int32) ≤ nI i := fun q => absurd ((nI_leI (a := 6) (by decide) (by omega)).mp q) (by omega)
theorem c_whoIsAt {M : Mem} {o n th x : Nat} {se go no : Nat → Nat} {he ba : Nat} (h : cS M o n th se go no he ba) (ok : okS n th se go no he) (hn : n ≤ 6) (hx : x < 2 ^ 31) : f_X7_whoIsAt o (nI x) M = some (eI (fstM (fun i => th.testBit i && decide (se i = x)) 6)) := by
  have ht : th < 64 := Nat.lt_of_lt_of_le ok.1 (two6 hn)
  unfold f_X7_whoIsAt
  refine loopE (fun f i (_ : Unit) => f_X7_whoIsAt_2 o M f (nI x) (nI i)) 6 (fun i _ => fstM (fun i => th.testBit i && decide (se i = x)) i = none) (fun r => r = some (eI (fstM (fun i => th.testBit i && decide (se i = x)) 6))) ?_ ?_ 6 0 (by omega) 100 () (by omega) rfl
  · intro f i _ hi hI
    have step : f_X7_whoIsAt_28 o M (f_X7_whoIsAt_2 o M f) (nI x) (nI i) = f_X7_whoIsAt_2 o M f (nI x) (nI (i + 1)) := by
      unfold f_X7_whoIsAt_28 lt_
      rw [nI_add1]
    show (∃ s', f_X7_whoIsAt_2 o M (f + 1) (nI x) (nI i) = _ ∧ _) ∨ f_X7_whoIsAt_2 o M (f + 1) (nI x) (nI i) = _
    rw [f_X7_whoIsAt_2, if_neg (n6i hi), c_isThere h.2.2.2.1 ht (by omega)]
    simp only [Option.bind_some, if_b2, if_gd hi (show 6 < 2 ^ 31 by decide), step]
    by_cases hb : th.testBit i = true
    · have hin := tb_lt ok.1 hb
      have k1 : (nI (se i) = nI x) = (se i = x) := eq_nI (by have := (ok.2.1 i hin).1; omega) hx
      rw [if_pos hb, tn_nI (by omega), h.1 i hin]
      simp only [k1]
      by_cases e : se i = x
      · right
        rw [if_pos e]
        have := fstM_hit hI (P := fun i => th.testBit i && decide (se i = x)) (by simp [hb, e]) (5 - i)
        rw [show i + 1 + (5 - i) = 6 by omega] at this
        rw [this]; rfl
      · left
        rw [if_neg e]
        exact ⟨(), rfl, fstM_miss hI (by simp [e])⟩
    · left
      rw [if_neg hb]
      exact ⟨(), rfl, fstM_miss hI (by simp [hb])⟩
  · intro f _ hI
    show f_X7_whoIsAt_2 o M (f + 1) (nI x) (nI 6) = _
    rw [f_X7_whoIsAt_2, if_pos (show (6 : Int32) ≤ nI 6 by decide), hI]
    rfl
theorem m_whoAt {M : Mem} {n x : Nat} {vo ra ki se go no : Nat → Nat} {he ba : Nat} (hR : mR M n vo ra ki) (hn : n ≤ 6) (h : mS M 0 n se go no he ba) (hse : ∀ i, i < n → se i < 8) (hx : x < 2 ^ 31) : f_X10_whoAt (nI x) M = some (eI (fstM (fun i => decide (se i = x)) n)) := by
  unfold f_X10_whoAt
  refine loopE (fun f i (_ : Unit) => f_X10_whoAt_2 M f (nI x) (nI i)) n (fun i _ => fstM (fun i => decide (se i = x)) i = none) (fun r => r = some (eI (fstM (fun i => decide (se i = x)) n))) ?_ ?_ n 0 (by omega) 100 () (by omega) rfl
  · intro f i _ hi hI
    show (∃ s', f_X10_whoAt_2 M (f + 1) (nI x) (nI i) = _ ∧ _) ∨ f_X10_whoAt_2 M (f + 1) (nI x) (nI i) = _
    rw [f_X10_whoAt_2, hR.2.2.2, if_neg (nI_ge hi (by omega)), if_gd (show i < 40 by omega) (by decide), tn_nI (by omega)]
    have k1 : (nI (se i) = nI x) = (se i = x) := eq_nI (by have := hse i hi; omega) hx
    have g1 := h.1 i hi
    rw [show 20 * 0 + i = i by omega] at g1
    rw [g1]
    simp only [k1, lt_, nI_add1]
    by_cases e : se i = x
    · right
      rw [if_pos e]
      have := fstM_hit hI (P := fun i => decide (se i = x)) (by simp [e]) (n - 1 - i)
      rw [show i + 1 + (n - 1 - i) = n by omega] at this
      rw [this]; rfl
    · left
      rw [if_neg e]
      exact ⟨(), rfl, fstM_miss hI (by simp [e])⟩
  · intro f _ hI
    show f_X10_whoAt_2 M (f + 1) (nI x) (nI n) = _
    rw [f_X10_whoAt_2, hR.2.2.2, if_pos (nI_le (Nat.le_refl n) (by omega)), hI]
    rfl
theorem c_goodsOfAll {M : Mem} {o n th : Nat} {se go no : Nat → Nat} {he ba : Nat} (h : cS M o n th se go no he ba) (ok : okS n th se go no he) (hn : n ≤ 6) : f_X7_goodsOfAll o M = some (nI (sumF (fun i => th.testBit i) go 6)) := by
  have ht : th < 64 := Nat.lt_of_lt_of_le ok.1 (two6 hn)
  unfold f_X7_goodsOfAll
  refine loopF (fun f i (x : Int32) => f_X7_goodsOfAll_4 o M f x (nI i)) 6 (fun k => nI (sumF (fun i => th.testBit i) go k)) _ ?_ ?_ 100 (by decide)
  · intro f i hi
    have step : ∀ a, f_X7_goodsOfAll_27 o M (f_X7_goodsOfAll_4 o M f) a (nI i) = f_X7_goodsOfAll_4 o M f a (nI (i + 1)) := fun a => by
      unfold f_X7_goodsOfAll_27 lt_
      rw [nI_add1]
    show f_X7_goodsOfAll_4 o M (f + 1) _ (nI i) = f_X7_goodsOfAll_4 o M f (nI (if th.testBit i = true then _ else _)) (nI (i + 1))
    rw [f_X7_goodsOfAll_4, if_neg (n6i hi), c_isThere h.2.2.2.1 ht (by omega)]
    simp only [Option.bind_some, if_b2, if_gd hi (show 6 < 2 ^ 31 by decide), step, lt_]
    by_cases hb : th.testBit i = true
    · rw [if_pos hb, if_pos hb, tn_nI (by omega), h.2.1 i (tb_lt ok.1 hb), nI_add]
    · rw [if_neg hb, if_neg hb]
  · intro f
    show f_X7_goodsOfAll_4 o M (f + 1) _ (nI 6) = _
    rw [f_X7_goodsOfAll_4, if_pos (show (6 : Int32) ≤ nI 6 by decide)]
theorem m_goodsOfAll {M : Mem} {n : Nat} {vo ra ki se go no : Nat → Nat} {he ba : Nat} (hR : mR M n vo ra ki) (hn : n ≤ 6) (h : mS M 0 n se go no he ba) : f_X10_goodsOfAll M = some (nI (sumF (fun _ => true) go n)) := by
  unfold f_X10_goodsOfAll
  refine loopF (fun f i (x : Int32) => f_X10_goodsOfAll_4 M f x (nI i)) n (fun k => nI (sumF (fun _ => true) go k)) _ ?_ ?_ 100 (by omega)
  · intro f i hi
    show f_X10_goodsOfAll_4 M (f + 1) _ (nI i) = f_X10_goodsOfAll_4 M f (nI (sumF (fun _ => true) go i + go i)) (nI (i + 1))
    have g1 := h.2.1 i hi
    rw [show 20 * 0 + 6 + i = 6 + i by omega] at g1
    rw [f_X10_goodsOfAll_4, hR.2.2.2, if_neg (nI_ge hi (by omega))]
    simp only [lt_, nI_add1]
    rw [show (6 : Int32) + nI i = nI (6 + i) from nI_add 6 i, if_gd (show 6 + i < 40 by omega) (by decide), tn_nI (by omega), g1, nI_add]
  · intro f
    show f_X10_goodsOfAll_4 M (f + 1) _ (nI n) = _
    rw [f_X10_goodsOfAll_4, hR.2.2.2, if_pos (nI_le (Nat.le_refl n) (by omega))]
theorem m_takenSeats {M : Mem} {n : Nat} {vo ra ki se go no : Nat → Nat} {he ba : Nat} (hR : mR M n vo ra ki) (hn : n ≤ 6) (h : mS M 0 n se go no he ba) (hse : ∀ i, i < n → se i < 8) : f_X10_takenSeats M = some (nI (mskF (fun _ => true) se n)) := by
  unfold f_X10_takenSeats
  refine loopF (fun f i (x : Int32) => f_X10_takenSeats_4 M f x (nI i)) n (fun k => nI (mskF (fun _ => true) se k)) _ ?_ ?_ 100 (by omega)
  · intro f i hi
    show f_X10_takenSeats_4 M (f + 1) _ (nI i) = f_X10_takenSeats_4 M f (nI (mskF (fun _ => true) se i ||| 2 ^ se i)) (nI (i + 1))
    have g1 := h.1 i hi
    rw [show 20 * 0 + i = i by omega] at g1
    rw [f_X10_takenSeats_4, hR.2.2.2, if_neg (nI_ge hi (by omega)), if_gd (show i < 40 by omega) (by decide)]
    simp only [lt_, nI_add1]
    rw [tn_nI (by omega), g1, shl1 (by have := hse i hi; omega), nI_or]
  · intro f
    show f_X10_takenSeats_4 M (f + 1) _ (nI n) = _
    rw [f_X10_takenSeats_4, hR.2.2.2, if_pos (nI_le (Nat.le_refl n) (by omega))]
theorem c_seenBy {M : Mem} {o n th s : Nat} {se go no : Nat → Nat} {he ba : Nat} (h : cS M o n th se go no he ba) (ok : okS n th se go no he) (hn : n ≤ 6) (hs : s < n) : f_X7_seenBy o (nI s) M = some (nI (mskF (seesB n th se s) (fun i => i) 6)) := by
  unfold f_X7_seenBy
  refine loopF (fun f i (x : Int32) => f_X7_seenBy_4 o M f (nI s) x (nI i)) 6 (fun k => nI (mskF (seesB n th se s) (fun i => i) k)) _ ?_ ?_ 100 (by decide)
  · intro f i hi
    have step : ∀ a, f_X7_seenBy_25 o M (f_X7_seenBy_4 o M f) (nI s) a (nI i) = f_X7_seenBy_4 o M f (nI s) a (nI (i + 1)) := fun a => by
      unfold f_X7_seenBy_25 lt_
      rw [nI_add1]
    show f_X7_seenBy_4 o M (f + 1) (nI s) _ (nI i) = f_X7_seenBy_4 o M f (nI s) (nI (if seesB n th se s i = true then mskF (seesB n th se s) (fun i => i) i ||| 2 ^ i else mskF (seesB n th se s) (fun i => i) i)) (nI (i + 1))
    rw [f_X7_seenBy_4, if_neg (n6i hi), c_isSeen h ok hn hs hi]
    simp only [Option.bind_some, if_b2, step, lt_]
    rw [shl1 (by omega), nI_or]
    split <;> rfl
  · intro f
    show f_X7_seenBy_4 o M (f + 1) (nI s) _ (nI 6) = _
    rw [f_X7_seenBy_4, if_pos (show (6 : Int32) ≤ nI 6 by decide)]
theorem eI9 {e : Option Nat} (h : ∀ q, e = some q → q < 6) : (eI e = -9) = (e = none) := by
  cases e with
  | none => simp [eI]
  | some q =>
    apply propext
    exact ⟨fun z => absurd z (eI_ne (h q rfl)), fun z => by cases z⟩
theorem env9 {n th : Nat} {ki se go no : Nat → Nat} {he i : Nat} (hn : n ≤ 6) : (eI (envy n th ki se go no he i) = -9) = (envy n th ki se go no he i = none) := eI9 (fun q hq => by have := (envy_some hq).1; omega)
theorem c_envious {M : Mem} {o n th : Nat} {vo ra ki se go no : Nat → Nat} {he ba : Nat} (hR : cR M n vo ra ki) (oR : okR n vo ra ki) (h : cS M o n th se go no he ba) (ok : okS n th se go no he) : f_X7_envious o M = some (nI (mskF (fun i => th.testBit i && (envy n th ki se go no he i).isSome) (fun i => i) 6)) := by
  have hn := oR.1
  have ht : th < 64 := Nat.lt_of_lt_of_le ok.1 (two6 hn)
  unfold f_X7_envious
  refine loopF (fun f i (x : Int32) => f_X7_envious_4 o M f x (nI i)) 6 (fun k => nI (mskF (fun i => th.testBit i && (envy n th ki se go no he i).isSome) (fun i => i) k)) _ ?_ ?_ 100 (by decide)
  · intro f i hi
    have step : ∀ a, f_X7_envious_34 o M (f_X7_envious_4 o M f) a (nI i) = f_X7_envious_4 o M f a (nI (i + 1)) := fun a => by
      unfold f_X7_envious_34 lt_
      rw [nI_add1]
    show f_X7_envious_4 o M (f + 1) _ (nI i) = f_X7_envious_4 o M f (nI (if (th.testBit i && (envy n th ki se go no he i).isSome) = true then mskF (fun i => th.testBit i && (envy n th ki se go no he i).isSome) (fun i => i) i ||| 2 ^ i else _)) (nI (i + 1))
    rw [f_X7_envious_4, if_neg (n6i hi), c_isThere h.2.2.2.1 ht (by omega)]
    simp only [Option.bind_some, if_b2, step, lt_]
    rw [shl1 (by omega), nI_or]
    by_cases hb : th.testBit i = true
    · rw [if_pos hb, c_enviedBy hR oR h ok (tb_lt ok.1 hb)]
      simp only [Option.bind_some, env9 hn, hb]
      cases envy n th ki se go no he i <;> simp
    · rw [if_neg hb]; simp [hb]
  · intro f
    show f_X7_envious_4 o M (f + 1) _ (nI 6) = _
    rw [f_X7_envious_4, if_pos (show (6 : Int32) ≤ nI 6 by decide)]
theorem m_jealous {M : Mem} {n th : Nat} {vo ra ki se go no : Nat → Nat} {he ba : Nat} (hR : mR M n vo ra ki) (oR : okR n vo ra ki) (h : mS M 0 n se go no he ba) (hT : mT M th) (hth : th < 64) (ok : okB n se go no he) : f_X10_jealous M = some (nI (mskF (fun i => (envy n th ki se go no he i).isSome) (fun i => i) n)) := by
  have hn := oR.1
  unfold f_X10_jealous
  refine loopF (fun f i (x : Int32) => f_X10_jealous_4 M f x (nI i)) n (fun k => nI (mskF (fun i => (envy n th ki se go no he i).isSome) (fun i => i) k)) _ ?_ ?_ 100 (by omega)
  · intro f i hi
    have step : ∀ a b, f_X10_jealous_31 M (f_X10_jealous_4 M f) (nI i) a b = f_X10_jealous_4 M f (a ||| b) (nI (i + 1)) := fun a b => by
      unfold f_X10_jealous_31 lt_
      rw [nI_add1]
    have or0 : ∀ a, nI a ||| (0 : Int32) = nI a := fun a => by rw [show (0 : Int32) = nI 0 from rfl, nI_or, Nat.or_zero]
    show f_X10_jealous_4 M (f + 1) _ (nI i) = f_X10_jealous_4 M f (nI (if ((envy n th ki se go no he i).isSome) = true then mskF (fun i => (envy n th ki se go no he i).isSome) (fun i => i) i ||| 2 ^ i else _)) (nI (i + 1))
    rw [f_X10_jealous_4, hR.2.2.2, if_neg (nI_ge hi (by omega)), show (0 : Int32) = nI 0 from rfl, m_enviesOf hR oR h hT hth ok (by decide) hi]
    simp only [Option.bind_some, step, env9 hn]
    rw [shl1 (by omega), nI_or, nI_or, Nat.or_zero]
    cases envy n th ki se go no he i <;> simp
  · intro f
    show f_X10_jealous_4 M (f + 1) _ (nI n) = _
    rw [f_X10_jealous_4, hR.2.2.2, if_pos (nI_le (Nat.le_refl n) (by omega))]
theorem ex2 {α : Type} {X Y : Option α} (h : Y = X) (hs : X.isSome = true) : ∃ r, X = some r ∧ Y = some r := by
  subst h
  exact ⟨_, (Option.some_get hs).symm, (Option.some_get hs).symm⟩
theorem okS_B {n th : Nat} {se go no : Nat → Nat} {he : Nat} (h : okS n th se go no he) : okB n se go no he := ⟨h.2.1, h.2.2⟩
theorem st6 {α : Type} {f : Nat → α} {n : Nat} (hn : n ≤ 6) (h : ∀ d, f (n + d) = f n) : f 6 = f n := by
  have := h (6 - n)
  rwa [show n + (6 - n) = 6 by omega] at this
theorem op_seat (v : Int32) {M : Mem} (hI : Inv M) : ∃ r, f_X9_seat v M = some r ∧ f_X10_seat v M = some r := by
  obtain ⟨⟨n, vo, ra, ki, se, go, no, he, ba, hC⟩, -, -, -⟩ := id hI
  obtain ⟨oR, hcR, hmR, ok, hcS, hmS, hT⟩ := id hC.1
  unfold f_X9_seat f_X9_seat_22 f_X10_seat f_X10_seat_21
  rw [show f_X9_isWithin v 0 7 M = some (b2 (wi 0 7 v)) from c_within, show f_X10_in v.toInt64 0 7 M = some (b2 (wi 0 7 v)) from m_within]
  simp only [Option.bind_some, if_b2]
  by_cases h : wi 0 7 v = true
  · obtain ⟨k, rfl, -, hk⟩ := wi_true (lo := 0) (hi := 7) h (by decide)
    rw [if_pos h, if_pos h, c_whoIsAt hcS ok oR.1 (by omega), m_whoAt hmR oR.1 hmS (fun i hi => (ok.2.1 i hi).1) (by omega)]
    refine ⟨_, rfl, ?_⟩
    have e1 : fstM (fun i => Nat.testBit (2 ^ n - 1) i && decide (se i = k)) 6 = fstM (fun i => Nat.testBit (2 ^ n - 1) i && decide (se i = k)) n := st6 (f := fstM (fun i => Nat.testBit (2 ^ n - 1) i && decide (se i = k))) oR.1 (fstM_stop (fun i hi => by rw [tb_ge (full_lt n) hi]; rfl))
    rw [e1, fstM_congr (P := fun i => Nat.testBit (2 ^ n - 1) i && decide (se i = k)) (Q := fun i => decide (se i = k)) (fun i hi => by rw [tb_full]; simp [hi])]
    rfl
  · rw [if_neg h, if_neg h]
    exact ⟨_, rfl, rfl⟩
theorem op_count (v : Int32) {M : Mem} (hI : Inv M) : ∃ r, f_X9_count v M = some r ∧ f_X10_count v M = some r := by
  obtain ⟨⟨n, vo, ra, ki, se, go, no, he, ba, hN, ⟨nx, ac, -, -, -, r4, -, r6, -⟩, -⟩, ⟨hn, hs, ht, hv, q1, q2, q3, q4⟩, ⟨len, tx, t1, t2, t3, t4⟩, -⟩ := id hI
  obtain ⟨oR, hcR, hmR, ok, hcS, hmS, hT⟩ := id hN
  have g18 := hmS.2.2.2.1
  have g19 := hmS.2.2.2.2
  have i18 : ¬ ((18 : Int32) < 0 ∨ 40 ≤ (18 : Int32).toNatClampNeg) := by decide
  have i19 : ¬ ((19 : Int32) < 0 ∨ 40 ≤ (19 : Int32).toNatClampNeg) := by decide
  have j18 : (18 : Int32).toNatClampNeg = 18 := by decide
  have j19 : (19 : Int32).toNatClampNeg = 19 := by decide
  have e3 : f_X10_takenSeats M = some (nI (mskF (fun i => Nat.testBit (2 ^ n - 1) i) se 6)) := by
    rw [m_takenSeats hmR oR.1 hmS (fun i hi => (ok.2.1 i hi).1), ← msk6 oR.1 (full_lt n), mskF_congr (Q := fun i => Nat.testBit (2 ^ n - 1) i) (r2 := se) (fun i hi => by rw [tb_full]; simp [hi]) (fun _ _ _ => rfl)]
  have e4 : f_X10_notesOn 0 M = some (nI (mskF (fun i => Nat.testBit (2 ^ n - 1) i) no 6)) := by
    rw [show (0 : Int32) = nI 0 from rfl, m_notesOn hmR oR.1 hmS hT (by decide) (fun i hi => (ok.2.1 i hi).2.2) (by decide), msk_63 oR.1, msk6 oR.1 (full_lt n)]
  have e5 : f_X10_goodsOfAll M = some (nI (sumF (fun i => Nat.testBit (2 ^ n - 1) i) go 6)) := by
    rw [m_goodsOfAll hmR oR.1 hmS, st6 (f := sumF (fun i => Nat.testBit (2 ^ n - 1) i) go) oR.1 (sumF_stop (fun i hi => tb_ge (full_lt n) hi)), sumF_congr (Q := fun i => Nat.testBit (2 ^ n - 1) i) (fun i hi => by rw [tb_full]; simp [hi])]
  have e6 : f_X10_jealous M = some (nI (mskF (fun i => Nat.testBit (2 ^ n - 1) i && (envy n (2 ^ n - 1) ki se go no he i).isSome) (fun i => i) 6)) := by
    rw [m_jealous hmR oR hmS hT (by decide) (okS_B ok), envy_63 oR.1]
    rw [st6 (f := mskF (fun i => Nat.testBit (2 ^ n - 1) i && (envy n (2 ^ n - 1) ki se go no he i).isSome) (fun i => i)) oR.1 (mskF_stop (fun i hi => by rw [tb_ge (full_lt n) hi]; simp))]
    rw [mskF_congr (P := fun i => (envy n (2 ^ n - 1) ki se go no he i).isSome) (Q := fun i => Nat.testBit (2 ^ n - 1) i && (envy n (2 ^ n - 1) ki se go no he i).isSome) (r1 := fun i => i) (r2 := fun i => i) (fun i hi => by rw [tb_full]; simp [hi]) (fun _ _ _ => rfl)]
  unfold f_X9_count f_X10_count
  rw [c_seatsTaken hcS ok oR.1, c_notesSung hcS ok oR.1, c_goodsOfAll hcS ok oR.1, c_envious hcR oR hcS ok, e3, e4, e5, e6, if_pos i18, if_pos i19, j18, j19, t2, t3, hcR.2.2.2, hmR.2.2.2, hcS.2.2.2.2.2, hcS.2.2.2.2.1, g18, g19, r4, r6, q2, q3]
  refine ex2 rfl ?_
  simp only [Option.bind_some]
  (repeat' split) <;> rfl
theorem op_singer (v w : Int32) {M : Mem} (hI : Inv M) : ∃ r, f_X9_singer v w M = some r ∧ f_X10_singer v w M = some r := by
  obtain ⟨⟨n, vo, ra, ki, se, go, no, he, ba, hC⟩, -, -, -⟩ := id hI
  obtain ⟨oR, hcR, hmR, ok, hcS, hmS, hT⟩ := id hC.1
  unfold f_X9_singer f_X9_singer_158 f_X10_singer
  rw [c_isSinger hcS.2.2.2.1 oR.1, m_isSinger hmR.2.2.2 oR.1]
  simp only [Option.bind_some, if_b2, lt_]
  by_cases h : isS n v = true
  · obtain ⟨s, hs, rfl⟩ := isS_true oR.1 h
    have hN := oR.1
    have i18 : ¬ ((18 : Int32) < 0 ∨ 40 ≤ (18 : Int32).toNatClampNeg) := by decide
    have j18 : (18 : Int32).toNatClampNeg = 18 := by decide
    have g18 := hmS.2.2.2.1
    rw [show 20 * 0 + 18 = 18 from rfl] at g18
    have g0 := hmS.1 s hs
    rw [show 20 * 0 + s = s by omega] at g0
    have g6 := hmS.2.1 s hs
    rw [show 20 * 0 + 6 + s = 6 + s by omega] at g6
    have g12 := hmS.2.2.1 s hs
    rw [show 20 * 0 + 12 + s = 12 + s by omega] at g12
    rw [if_pos h, if_pos h]
    simp only [if_gd (show s < 6 by omega) (show 6 < 2 ^ 31 by decide), if_gd (show s < 40 by omega) (show 40 < 2 ^ 31 by decide), show (6 : Int32) + nI s = nI (6 + s) from nI_add 6 s, show (12 : Int32) + nI s = nI (12 + s) from nI_add 12 s, if_gd (show 6 + s < 40 by omega) (show 40 < 2 ^ 31 by decide), if_gd (show 12 + s < 40 by omega) (show 40 < 2 ^ 31 by decide)]
    have hk : f_X10_seesOf 0 (nI s) M = some (nI (mskF (seesB n (2 ^ n - 1) se s) (fun i => i) 6)) := by
      rw [show (0 : Int32) = nI 0 from rfl, m_seesOf hmR hN hmS hT (by decide) (fun i hi => (ok.2.1 i hi).1) (by decide) hs, seesB_63 hN, st6 (f := mskF (seesB n (2 ^ n - 1) se s) (fun i => i)) hN (mskF_stop (fun i hi => seesB_n hi))]
    have he7 : f_X10_enviesOf 0 (nI s) M = some (eI (envy n (2 ^ n - 1) ki se go no he s)) := by
      rw [show (0 : Int32) = nI 0 from rfl, m_enviesOf hmR oR hmS hT (by decide) (okS_B ok) (by decide) hs, envy_63 hN]
    rw [c_seenBy hcS ok hN hs, c_enviedBy hcR oR hcS ok hs, c_isHeldOn hcS.2.2.2.2.1 ok.2.2 (by omega), hk, he7, if_pos i18, j18, tn_nI (by omega), tn_nI (by omega), tn_nI (by omega), g0, g6, g12, g18, hcS.1 s hs, hcS.2.1 s hs, hcS.2.2.1 s hs, hcR.1 s hs, hcR.2.1 s hs, hcR.2.2.1 s hs, hmR.1 s hs, hmR.2.1 s hs, hmR.2.2.1 s hs]
    simp only [Option.bind_some, if_b2]
    have hb : ((nI he >>> (nI s &&& 31)) &&& (1 : Int32)) = b2 (he.testBit s) := by
      rw [bt_val (by have := ok.2.2; omega) (by omega)]
      rw [b2_nI, Nat.testBit_eq_decide_div_mod_eq]
      have : he / 2 ^ s % 2 = 0 ∨ he / 2 ^ s % 2 = 1 := by omega
      rcases this with e | e <;> rw [e] <;> rfl
    rw [hb]
    refine ex2 ?_ ?_
    · cases he.testBit s <;> rfl
    · (repeat' split) <;> rfl
  · rw [if_neg h, if_neg h]
    exact ⟨_, rfl, rfl⟩
