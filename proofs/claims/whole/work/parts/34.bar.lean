theorem clamp_eq {v r x : Nat} (hv : v < 10) (hr : r < 10) (hx : x < 10) : (if (if (nI v + nI r) < nI x then (nI v + nI r) else nI x) < (nI v - nI r) then (nI v - nI r) else (if (nI v + nI r) < nI x then (nI v + nI r) else nI x)) = nI (clampN v r x) := by
  have : ∀ v, v < 10 → ∀ r, r < 10 → ∀ x, x < 10 → (if (if (nI v + nI r) < nI x then (nI v + nI r) else nI x) < (nI v - nI r) then (nI v - nI r) else (if (nI v + nI r) < nI x then (nI v + nI r) else nI x)) = nI (clampN v r x) := by decide +kernel
  exact this v hv r hr x hx
theorem clamp_lt {v r x : Nat} (hv : v < 10) (hx : x < 10) : clampN v r x < 10 := by
  unfold clampN
  omega
theorem nxt_lt {n th : Nat} {vo ra ki se go no : Nat → Nat} {he s : Nat} (oR : okR n vo ra ki) (hno : ∀ i, i < n → no i < 10) (hs : s < n) : nxt n th vo ra ki se go no he s < 10 := by
  unfold nxt
  split
  · exact hno s hs
  · split
    · exact (oR.2 s hs).1
    · rename_i e he
      exact clamp_lt (oR.2 s hs).1 (hno e (envy_some he).1)
theorem envy_congr {n th : Nat} {ki se go n1 n2 : Nat → Nat} {he s : Nat} (h0 : n1 s = n2 s) (h : ∀ j, j < n → th.testBit j = true → n1 j = n2 j) : envy n th ki se go n1 he s = envy n th ki se go n2 he s := by
  unfold envy
  rw [envF_congr (r1 := n1) (r2 := n2) (s1 := seesB n th se s) (s2 := seesB n th se s) h0 (fun _ => rfl) (fun o ho => h o (seesB_lt ho).1 (seesB_lt ho).2)]
theorem nxt_congr {n th : Nat} {vo ra ki se go n1 n2 : Nat → Nat} {he s : Nat} (h0 : n1 s = n2 s) (h : ∀ j, j < n → th.testBit j = true → n1 j = n2 j) : nxt n th vo ra ki se go n1 he s = nxt n th vo ra ki se go n2 he s := by
  unfold nxt
  rw [envy_congr h0 h, h0]
  split
  · rfl
  · split
    · rfl
    · rename_i e he
      rw [h e (envy_some he).1 (envy_some he).2]
theorem c_nextNoteOf {M : Mem} {o n th s : Nat} {vo ra ki se go no : Nat → Nat} {he ba : Nat} (hR : cR M n vo ra ki) (oR : okR n vo ra ki) (h : cS M o n th se go no he ba) (ok : okS n th se go no he) (hs : s < n) : f_X7_nextNoteOf o (nI s) M = some (nI (nxt n th vo ra ki se go no he s)) := by
  have hn := oR.1
  unfold f_X7_nextNoteOf f_X7_nextNoteOf_41 lt_
  simp only [if_gd (show s < 6 by omega) (show 6 < 2 ^ 31 by decide)]
  rw [c_isHeld (ki := ki) h.2.2.2.2.1 (hR.2.2.1 s hs) ok.2.2 (by omega) (oR.2 s hs).2.2, c_enviedBy hR oR h ok hs, tn_nI (by omega), hR.1 s hs, hR.2.1 s hs, h.2.2.1 s hs]
  simp only [Option.bind_some, if_b2]
  unfold nxt
  by_cases h1 : isH ki he s = true
  · rw [if_pos h1, if_pos h1]
  · rw [if_neg h1, if_neg h1]
    cases e : envy n th ki se go no he s with
    | none => rfl
    | some q =>
      have hq := (envy_some e).1
      rw [show eI (some q) = nI q from rfl, if_neg (nI_pos (by omega)), if_pos (show nI q < 6 from nI_lt (b := 6) (by omega) (by decide)), if_gd (show q < 6 by omega) (by decide), tn_nI (by omega), h.2.2.1 q hq]
      exact congrArg some (clamp_eq (oR.2 s hs).1 (oR.2 s hs).2.1 (ok.2.1 q hq).2.2)
/-! masks -/
def mskF (P : Nat → Bool) (row : Nat → Nat) : Nat → Nat
  | 0 => 0
  | k + 1 => if P k = true then mskF P row k ||| 2 ^ row k else mskF P row k
theorem mskF_lt {P : Nat → Bool} {row : Nat → Nat} {N : Nat} : ∀ {k : Nat}, (∀ i, i < k → P i = true → row i < N) → mskF P row k < 2 ^ N := by
  intro k
  induction k with
  | zero => intro _; exact Nat.two_pow_pos N
  | succ k ih =>
    intro h
    unfold mskF
    have i1 := ih (fun i hi hp => h i (by omega) hp)
    split
    · rename_i hp
      exact Nat.or_lt_two_pow i1 (Nat.pow_lt_pow_right (by decide) (h k (by omega) hp))
    · exact i1
theorem mskF_congr {P Q : Nat → Bool} {r1 r2 : Nat → Nat} : ∀ {k : Nat}, (∀ i, i < k → P i = Q i) → (∀ i, i < k → P i = true → r1 i = r2 i) → mskF P r1 k = mskF Q r2 k := by
  intro k
  induction k with
  | zero => intro _ _; rfl
  | succ k ih =>
    intro h g
    unfold mskF
    rw [ih (fun i hi => h i (by omega)) (fun i hi => g i (by omega)), h k (by omega)]
    split
    · rename_i hp
      rw [g k (by omega) (by rw [h k (by omega)]; exact hp)]
    · rfl
theorem mskF_stop {P : Nat → Bool} {row : Nat → Nat} {n : Nat} (h : ∀ i, n ≤ i → P i = false) : ∀ d, mskF P row (n + d) = mskF P row n := by
  intro d
  induction d with
  | zero => rfl
  | succ d ih =>
    have e : mskF P row (n + d + 1) = if P (n + d) = true then mskF P row (n + d) ||| 2 ^ row (n + d) else mskF P row (n + d) := rfl
    rw [show n + (d + 1) = n + d + 1 from rfl, e, h (n + d) (by omega), ih]
    simp
theorem c_bitsOf {M : Mem} {o n th r : Nat} {row : Nat → Nat} (h5 : M.1 o 0 5 = nI th) (hth : th < 2 ^ n) (hn : n ≤ 6) (hr : ∀ i, i < n → M.1 o r i = nI (row i)) (hrow : ∀ i, i < n → row i < 31) : f_X7_bitsOf o r M = some (nI (mskF (fun i => th.testBit i) row 6)) := by
  have ht : th < 64 := Nat.lt_of_lt_of_le hth (two6 hn)
  unfold f_X7_bitsOf
  refine loopF (fun f i (x : Int32) => f_X7_bitsOf_4 o r M f x (nI i)) 6 (fun k => nI (mskF (fun i => th.testBit i) row k)) _ ?_ ?_ 100 (by decide)
  · intro f i hi
    have step : ∀ a, f_X7_bitsOf_26 o r M (f_X7_bitsOf_4 o r M f) a (nI i) = f_X7_bitsOf_4 o r M f a (nI (i + 1)) := fun a => by
      unfold f_X7_bitsOf_26 lt_
      rw [nI_add1]
    show f_X7_bitsOf_4 o r M (f + 1) _ (nI i) = _
    rw [f_X7_bitsOf_4]
    simp only [step, lt_]
    rw [if_neg (show ¬ (6 : Int32) ≤ nI i from fun q => absurd ((nI_leI (a := 6) (by decide) (by omega)).mp q) (by omega)), c_isThere h5 ht (by omega)]
    simp only [Option.bind_some, if_b2, if_gd hi (show 6 < 2 ^ 31 by decide)]
    show _ = f_X7_bitsOf_4 o r M f (nI (if th.testBit i = true then _ else _)) (nI (i + 1))
    by_cases hb : th.testBit i = true
    · have hin := tb_lt hth hb
      rw [if_pos hb, if_pos hb, tn_nI (by omega), hr i hin, shl1 (hrow i hin), nI_or]
    · rw [if_neg hb, if_neg hb]
  · intro f
    show f_X7_bitsOf_4 o r M (f + 1) _ (nI 6) = _
    rw [f_X7_bitsOf_4, if_pos (show (6 : Int32) ≤ nI 6 from by decide)]
def popF (m : Nat) : Nat → Nat
  | 0 => 0
  | k + 1 => popF m k + m / 2 ^ k % 2
def pop (m : Nat) : Nat := popF m 10
def bcI (v0 : Int32) : Option Int32 := f_J6_bitCount_0f7a4 v0 (fun _ _ _ => 0, fun _ => 0)
theorem bcI_all : ∀ m, m < 1024 → bcI (nI m) = some (nI (pop m)) := by decide +kernel
theorem c_bitCount {M : Mem} {m : Nat} (h : m < 1024) : f_J6_bitCount_0f7a4 (nI m) M = some (nI (pop m)) := bcI_all m h
/-- how many notes are sung -/
def rich (th : Nat) (no : Nat → Nat) : Nat := pop (mskF (fun i => th.testBit i) no 6)
theorem c_notesSung {M : Mem} {o n th : Nat} {se go no : Nat → Nat} {he ba : Nat} (h : cS M o n th se go no he ba) (ok : okS n th se go no he) (hn : n ≤ 6) : f_X7_notesSung o M = some (nI (mskF (fun i => th.testBit i) no 6)) := by
  unfold f_X7_notesSung
  rw [c_bitsOf h.2.2.2.1 ok.1 hn h.2.2.1 (fun i hi => by have := (ok.2.1 i hi).2.2; omega)]
  rfl
theorem c_seatsTaken {M : Mem} {o n th : Nat} {se go no : Nat → Nat} {he ba : Nat} (h : cS M o n th se go no he ba) (ok : okS n th se go no he) (hn : n ≤ 6) : f_X7_seatsTaken o M = some (nI (mskF (fun i => th.testBit i) se 6)) := by
  unfold f_X7_seatsTaken
  rw [c_bitsOf h.2.2.2.1 ok.1 hn h.1 (fun i hi => by have := (ok.2.1 i hi).1; omega)]
  rfl
theorem c_richness {M : Mem} {o n th : Nat} {se go no : Nat → Nat} {he ba : Nat} (h : cS M o n th se go no he ba) (ok : okS n th se go no he) (hn : n ≤ 6) : f_X7_richness o M = some (nI (rich th no)) := by
  unfold f_X7_richness
  rw [c_notesSung h ok hn]
  simp only [Option.bind_some]
  rw [c_bitCount (mskF_lt (N := 10) (fun i _ hp => (ok.2.1 i (tb_lt ok.1 hp)).2.2))]
  rfl
/-! bars -/
def stp (n th : Nat) (vo ra ki se go no : Nat → Nat) (he : Nat) : Nat → Nat := fun i => if th.testBit i = true then nxt n th vo ra ki se go no he i else no i
def itr (n th : Nat) (vo ra ki se go no : Nat → Nat) (he : Nat) : Nat → Nat → Nat
  | 0 => no
  | k + 1 => stp n th vo ra ki se go (itr n th vo ra ki se go no he k) he
theorem stp_lt {n th : Nat} {vo ra ki se go no : Nat → Nat} {he : Nat} (oR : okR n vo ra ki) (hno : ∀ i, i < n → no i < 10) : ∀ i, i < n → stp n th vo ra ki se go no he i < 10 := by
  intro i hi
  unfold stp
  split
  · exact nxt_lt oR hno hi
  · exact hno i hi
theorem itr_lt {n th : Nat} {vo ra ki se go no : Nat → Nat} {he : Nat} (oR : okR n vo ra ki) (hno : ∀ i, i < n → no i < 10) : ∀ k i, i < n → itr n th vo ra ki se go no he k i < 10 := by
  intro k
  induction k with
  | zero => exact hno
  | succ k ih => exact stp_lt oR ih
theorem stp_congr {n th : Nat} {vo ra ki se go n1 n2 : Nat → Nat} {he : Nat} (h : ∀ j, j < n → n1 j = n2 j) : ∀ j, j < n → stp n th vo ra ki se go n1 he j = stp n th vo ra ki se go n2 he j := by
  intro j hj
  unfold stp
  rw [nxt_congr (h j hj) (fun i hi _ => h i hi), h j hj]
theorem itr_fix {n th : Nat} {vo ra ki se go no : Nat → Nat} {he i : Nat} (h : ∀ j, j < n → stp n th vo ra ki se go (itr n th vo ra ki se go no he i) he j = itr n th vo ra ki se go no he i j) : ∀ d j, j < n → itr n th vo ra ki se go no he (i + d) j = itr n th vo ra ki se go no he i j := by
  intro d
  induction d with
  | zero => intro j _; rfl
  | succ d ih =>
    intro j hj
    show stp n th vo ra ki se go (itr n th vo ra ki se go no he (i + d)) he j = _
    rw [stp_congr ih j hj, h j hj]
theorem okS_itr {n th : Nat} {vo ra ki se go no : Nat → Nat} {he : Nat} (oR : okR n vo ra ki) (ok : okS n th se go no he) (k : Nat) : okS n th se go (itr n th vo ra ki se go no he k) he := ⟨ok.1, fun i hi => ⟨(ok.2.1 i hi).1, (ok.2.1 i hi).2.1, itr_lt oR (fun i hi => (ok.2.1 i hi).2.2) k i hi⟩, ok.2.2⟩
theorem sw_1 {M : Mem} {o i k : Nat} {x : Int32} (a b : Nat) : (sw M o i k x).1 a b = if a = o ∧ b = i then upd (M.1 o i) k x else M.1 a b := rfl
theorem sw_ne {M : Mem} {o i k : Nat} {x : Int32} {a b : Nat} (h : ¬ (a = o ∧ b = i)) : (sw M o i k x).1 a b = M.1 a b := if_neg h
theorem sr_ne {M : Mem} {o i : Nat} {f : Nat → Int32} {a b : Nat} (h : ¬ (a = o ∧ b = i)) : (sr M o i f).1 a b = M.1 a b := if_neg h
/-- the memories are alike but for what P names -/
def Alk (P : Nat → Nat → Prop) (M M' : Mem) : Prop := (∀ a b, ¬ P a b → M'.1 a b = M.1 a b) ∧ M'.2 = M.2
theorem Alk.rf {P : Nat → Nat → Prop} {M : Mem} : Alk P M M := ⟨fun _ _ _ => rfl, rfl⟩
theorem Alk.tr {P : Nat → Nat → Prop} {M1 M2 M3 : Mem} (h1 : Alk P M1 M2) (h2 : Alk P M2 M3) : Alk P M1 M3 := ⟨fun a b h => (h2.1 a b h).trans (h1.1 a b h), h2.2.trans h1.2⟩
theorem Alk.wk {P Q : Nat → Nat → Prop} {M M' : Mem} (h : Alk P M M') (hPQ : ∀ a b, P a b → Q a b) : Alk Q M M' := ⟨fun a b q => h.1 a b (fun p => q (hPQ a b p)), h.2⟩
theorem Alk.sw {P : Nat → Nat → Prop} {M : Mem} {o i k : Nat} {x : Int32} (h : P o i) : Alk P M (sw M o i k x) := ⟨fun a b q => sw_ne (fun e => q (by rw [e.1, e.2]; exact h)), rfl⟩
theorem Alk.sr {P : Nat → Nat → Prop} {M : Mem} {o i : Nat} {f : Nat → Int32} (h : P o i) : Alk P M (sr M o i f) := ⟨fun a b q => sr_ne (fun e => q (by rw [e.1, e.2]; exact h)), rfl⟩
theorem cR_alk {P : Nat → Nat → Prop} {M M' : Mem} {n : Nat} {vo ra ki : Nat → Nat} (h : cR M n vo ra ki) (hA : Alk P M M') (hP : ∀ b, ¬ P 19 b) : cR M' n vo ra ki := by
  unfold cR
  rw [hA.1 19 0 (hP 0), hA.1 19 1 (hP 1), hA.1 19 2 (hP 2), hA.1 19 3 (hP 3)]
  exact h
theorem cS_alk {P : Nat → Nat → Prop} {M M' : Mem} {o n th : Nat} {se go no : Nat → Nat} {he ba : Nat} (h : cS M o n th se go no he ba) (hA : Alk P M M') (hP : ∀ b, b < 4 → ¬ P o b) : cS M' o n th se go no he ba := by
  unfold cS
  rw [hA.1 o 0 (hP 0 (by decide)), hA.1 o 1 (hP 1 (by decide)), hA.1 o 2 (hP 2 (by decide)), hA.1 o 3 (hP 3 (by decide))]
  exact h
def nxX (M : Mem) (o n th : Nat) (vo ra ki se go no : Nat → Nat) (he k : Nat) : Int32 := if th.testBit k = true then nI (nxt n th vo ra ki se go no he k) else M.1 o 3 k
def mvF (X Y : Nat → Int32) : Nat → Bool
  | 0 => false
  | k + 1 => mvF X Y k || decide (X k ≠ Y k)
theorem mvF_false {X Y : Nat → Int32} : ∀ {k : Nat}, mvF X Y k = false → ∀ j, j < k → X j = Y j := by
  intro k
  induction k with
  | zero => intro _ j hj; omega
  | succ k ih =>
    intro h j hj
    simp [mvF] at h
    by_cases e : j = k
    · subst e; exact h.2
    · exact ih h.1 j (by omega)
def memN (M : Mem) (o : Nat) (X : Nat → Int32) : Nat → Mem
  | 0 => M
  | k + 1 => sw (memN M o X k) o 4 k (X k)
theorem memN_alk {M : Mem} {o : Nat} {X : Nat → Int32} : ∀ k, Alk (fun a b => a = o ∧ b = 4) M (memN M o X k) := by
  intro k
  induction k with
  | zero => exact Alk.rf
  | succ k ih => exact ih.tr (Alk.sw ⟨rfl, rfl⟩)
theorem memN_at {M : Mem} {o : Nat} {X : Nat → Int32} : ∀ k j, j < k → (memN M o X k).1 o 4 j = X j := by
  intro k
  induction k with
  | zero => intro j hj; omega
  | succ k ih =>
    intro j hj
    show (sw (memN M o X k) o 4 k (X k)).1 o 4 j = X j
    rw [sw_same]
    unfold upd
    by_cases e : j = k
    · rw [if_pos e, e]
    · rw [if_neg e]; exact ih j (by omega)
theorem c_bar {M : Mem} {o n th : Nat} {vo ra ki se go no : Nat → Nat} {he ba : Nat} (hR : cR M n vo ra ki) (oR : okR n vo ra ki) (h : cS M o n th se go no he ba) (ok : okS n th se go no he) (ho : o < 18) (k2 : Int32 → Int32 → Mem → Option Mem) (v1 v2 : Int32) :
    ∃ M', Alk (fun a b => a = o ∧ (b = 3 ∨ b = 4)) M M' ∧ cS M' o n th se go (stp n th vo ra ki se go no he) he ba ∧ ((f_X7_goOn_12 o k2 100 v1 v2 0 0 M = some M' ∧ ∀ j, j < n → stp n th vo ra ki se go no he j = no j) ∨ f_X7_goOn_12 o k2 100 v1 v2 0 0 M = k2 v1 (v2 + 1) M') := by
  have hn := oR.1
  have ht : th < 64 := Nat.lt_of_lt_of_le ok.1 (two6 hn)
  obtain ⟨X, hX⟩ : ∃ X, X = nxX M o n th vo ra ki se go no he := ⟨_, rfl⟩
  have key : f_X7_goOn_12 o k2 100 v1 v2 0 0 M = if mvF X (M.1 o 3) 6 = false then some (memN M o X 6) else k2 v1 (v2 + 1) (sr (memN M o X 6) o 3 (va_cpy ((memN M o X 6).1 o 4) ((memN M o X 6).1 o 3) 0 0 6)) := by
    refine loopF (fun f i (x : Int32 × Mem) => f_X7_goOn_12 o k2 f v1 v2 x.1 (nI i) x.2) 6 (fun k => (b2 (mvF X (M.1 o 3) k), memN M o X k)) _ ?_ ?_ 100 (by decide)
    · intro f i hi
      show f_X7_goOn_12 o k2 (f + 1) v1 v2 (b2 (mvF X (M.1 o 3) i)) (nI i) (memN M o X i) = f_X7_goOn_12 o k2 f v1 v2 (b2 (mvF X (M.1 o 3) i || decide (X i ≠ M.1 o 3 i))) (nI (i + 1)) (sw (memN M o X i) o 4 i (X i))
      have hA := memN_alk (M := M) (o := o) (X := X) i
      have hSi := cS_alk h hA (fun b hb e => by omega)
      have hRi := cR_alk hR hA (fun b e => by omega)
      rw [f_X7_goOn_12, if_neg (show ¬ (6 : Int32) ≤ nI i from fun q => absurd ((nI_leI (a := 6) (by decide) (by omega)).mp q) (by omega)), c_isThere hSi.2.2.2.1 ht (by omega)]
      simp only [Option.bind_some, if_b2, if_gd hi (show 6 < 2 ^ 31 by decide)]
      have h50 : ∀ x : Int32, X i = x → f_X7_goOn_50 o k2 (f_X7_goOn_12 o k2 f) v1 v2 (b2 (mvF X (M.1 o 3) i)) (nI i) (nI i) x (memN M o X i) = f_X7_goOn_12 o k2 f v1 v2 (b2 (mvF X (M.1 o 3) i || decide (X i ≠ M.1 o 3 i))) (nI (i + 1)) (sw (memN M o X i) o 4 i (X i)) := by
        intro x hx
        unfold f_X7_goOn_50 f_X7_goOn_72 f_X7_goOn_77 lt_
        simp only [if_gd hi (show 6 < 2 ^ 31 by decide), if_b2]
        rw [tn_nI (by omega), sw_same, sw_ne (a := o) (b := 3) (by omega), hA.1 o 3 (by omega), nI_add1, ← hx]
        have e1 : upd ((memN M o X i).1 o 4) i (X i) i = X i := if_pos rfl
        rw [e1]
        cases hm : mvF X (M.1 o 3) i with
        | true => simp [b2]
        | false =>
          by_cases e : X i = M.1 o 3 i
          · simp [e, b2]
          · simp [e, b2]
      by_cases hb : th.testBit i = true
      · have hin := tb_lt ok.1 hb
        rw [if_pos hb, c_nextNoteOf hRi oR hSi ok hin]
        simp only [Option.bind_some]
        exact h50 _ (by rw [hX]; unfold nxX; rw [if_pos hb])
      · rw [if_neg hb]
        refine h50 _ ?_
        rw [tn_nI (by omega), hA.1 o 3 (by omega), hX]
        unfold nxX
        rw [if_neg hb]
    · intro f
      show f_X7_goOn_12 o k2 (f + 1) v1 v2 (b2 (mvF X (M.1 o 3) 6)) (nI 6) (memN M o X 6) = _
      rw [f_X7_goOn_12, if_pos (show (6 : Int32) ≤ nI 6 from by decide)]
      unfold f_X7_goOn_112 lt_
      simp only [if_b2]
      cases mvF X (M.1 o 3) 6 <;> rfl
  have hA6 := memN_alk (M := M) (o := o) (X := X) 6
  have hS6 := cS_alk h hA6 (fun b hb e => by omega)
  have hXn : ∀ j, j < n → X j = nI (stp n th vo ra ki se go no he j) := by
    intro j hj
    rw [hX]
    unfold nxX stp
    split
    · rfl
    · exact h.2.2.1 j hj
  by_cases hm : mvF X (M.1 o 3) 6 = false
  · rw [if_pos hm] at key
    have hfix : ∀ j, j < n → stp n th vo ra ki se go no he j = no j := by
      intro j hj
      have e := mvF_false hm j (by omega)
      rw [hXn j hj, h.2.2.1 j hj] at e
      have b1 := stp_lt (th := th) (se := se) (go := go) (he := he) oR (fun i hi => (ok.2.1 i hi).2.2) j hj
      have b2 := (ok.2.1 j hj).2.2
      exact (nI_eq (by omega) (by omega)).mp e
    refine ⟨memN M o X 6, hA6.wk (fun a b e => ⟨e.1, Or.inr e.2⟩), ?_, Or.inl ⟨key, hfix⟩⟩
    refine ⟨hS6.1, hS6.2.1, fun i hi => ?_, hS6.2.2.2⟩
    rw [hS6.2.2.1 i hi, hfix i hi]
  · rw [if_neg hm] at key
    refine ⟨_, (hA6.wk (fun a b e => ⟨e.1, Or.inr e.2⟩)).tr (Alk.sr ⟨rfl, Or.inl rfl⟩), ?_, Or.inr key⟩
    refine ⟨?_, ?_, ?_, ?_⟩
    · rw [sr_ne (by omega)]; exact hS6.1
    · rw [sr_ne (by omega)]; exact hS6.2.1
    · intro i hi
      rw [sr_same]
      unfold va_cpy
      rw [if_pos ⟨by omega, by omega⟩, show 0 + (i - 0) = i by omega, memN_at 6 i (by omega), hXn i hi]
    · rw [sr_ne (by omega)]; exact hS6.2.2.2
theorem c_goOn {M : Mem} {o n th : Nat} {vo ra ki se go no : Nat → Nat} {he ba m : Nat} (hR : cR M n vo ra ki) (oR : okR n vo ra ki) (h : cS M o n th se go no he ba) (ok : okS n th se go no he) (ho : o < 18) (hm : m ≤ 60) :
    ∃ M', f_X7_goOn o (nI m) M = some M' ∧ Alk (fun a b => a = o ∧ (b = 3 ∨ b = 4)) M M' ∧ cS M' o n th se go (itr n th vo ra ki se go no he m) he ba := by
  unfold f_X7_goOn
  refine loopE (fun f i (M1 : Mem) => f_X7_goOn_2 o f (nI m) (nI i) M1) m (fun i M1 => Alk (fun a b => a = o ∧ (b = 3 ∨ b = 4)) M M1 ∧ cS M1 o n th se go (itr n th vo ra ki se go no he i) he ba) (fun r => ∃ M', r = some M' ∧ Alk (fun a b => a = o ∧ (b = 3 ∨ b = 4)) M M' ∧ cS M' o n th se go (itr n th vo ra ki se go no he m) he ba) ?_ ?_ m 0 (by omega) 100 M (by omega) ⟨Alk.rf, h⟩
  · rintro f i M1 hi ⟨hA, hS⟩
    show (∃ s', f_X7_goOn_2 o (f + 1) (nI m) (nI i) M1 = _ ∧ _) ∨ _
    have e0 : f_X7_goOn_2 o (f + 1) (nI m) (nI i) M1 = f_X7_goOn_12 o (f_X7_goOn_2 o f) 100 (nI m) (nI i) 0 0 M1 := by
      rw [f_X7_goOn_2, if_neg (show ¬ nI m ≤ nI i from nI_ge hi (by omega))]
    obtain ⟨M', hA', hS', hc⟩ := c_bar (cR_alk hR hA (fun b e => by omega)) oR hS (okS_itr oR ok i) ho (f_X7_goOn_2 o f) (nI m) (nI i)
    rcases hc with ⟨hc, hfix⟩ | hc
    · right
      show ∃ M', f_X7_goOn_2 o (f + 1) (nI m) (nI i) M1 = some M' ∧ _
      refine ⟨M', e0.trans hc, hA.tr hA', hS'.1, hS'.2.1, fun j hj => ?_, hS'.2.2.2⟩
      have e1 := itr_fix hfix (m - i) j hj
      rw [show i + (m - i) = m by omega] at e1
      rw [hS'.2.2.1 j hj, e1, hfix j hj]
    · left
      refine ⟨M', ?_, hA.tr hA', hS'⟩
      rw [e0, hc, nI_add1]
  · rintro f M1 ⟨hA, hS⟩
    refine ⟨M1, ?_, hA, hS⟩
    show f_X7_goOn_2 o (f + 1) (nI m) (nI m) M1 = _
    rw [f_X7_goOn_2, if_pos (nI_le (Nat.le_refl m) (by omega))]
    rfl
