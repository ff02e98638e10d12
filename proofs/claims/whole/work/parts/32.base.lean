/-! numbers and bits -/
theorem tn_nI {n : Nat} (h : n < 2 ^ 31) : (nI n).toNatClampNeg = n := nI_clamp h
theorem if_gd {β : Type} {i N : Nat} {a b : β} (h : i < N) (hN : N < 2 ^ 31) : (if ¬ (nI i < 0 ∨ N ≤ (nI i).toNatClampNeg) then a else b) = a := if_pos (nI_in h hN)
theorem nI_and31 {i : Nat} (h : i < 32) : nI i &&& 31 = nI i := by
  have e := pk_andN (n := i) (by omega) (m := 31) 5 (by decide)
  rw [e, Nat.mod_eq_of_lt (by simpa using h)]
theorem smod_nI {i : Nat} (h : i < 32) : ((nI i).toBitVec.smod 32).toNat = i := by
  have : ∀ j, j < 32 → ((nI j).toBitVec.smod 32).toNat = j := by decide +kernel
  exact this i h
theorem bt_iff {m i : Nat} (hm : m < 2 ^ 31) (hi : i < 32) : (((nI m >>> (nI i &&& 31)) &&& (1 : Int32)) = 1) ↔ m.testBit i = true := by
  rw [nI_and31 hi, pk_shrN hm (nI i) i (smod_nI hi)]
  have hd : m / 2 ^ i < 2 ^ 31 := Nat.lt_of_le_of_lt (Nat.div_le_self _ _) hm
  have e := pk_andN (n := m / 2 ^ i) (by omega) (m := 1) 1 (by decide)
  rw [e]
  rw [show (1 : Int32) = nI 1 from rfl, nI_eq (by omega) (by omega)]
  rw [Nat.testBit_eq_decide_div_mod_eq]
  simp
theorem bt_val {m i : Nat} (hm : m < 2 ^ 31) (hi : i < 32) : ((nI m >>> (nI i &&& 31)) &&& (1 : Int32)) = nI (m / 2 ^ i % 2) := by
  rw [nI_and31 hi, pk_shrN hm (nI i) i (smod_nI hi)]
  have hd : m / 2 ^ i < 2 ^ 31 := Nat.lt_of_le_of_lt (Nat.div_le_self _ _) hm
  have e := pk_andN (n := m / 2 ^ i) (by omega) (m := 1) 1 (by decide)
  rw [e]
theorem shl1 {k : Nat} (h : k < 31) : (1 : Int32) <<< (nI k &&& 31) = nI (2 ^ k) := by
  have : ∀ j, j < 31 → (1 : Int32) <<< (nI j &&& 31) = nI (2 ^ j) := by decide +kernel
  exact this k h
theorem nI_or (a b : Nat) : nI a ||| nI b = nI (a ||| b) := by
  apply Int32.toBitVec_inj.mp
  simp only [nI, Int32.toBitVec_or]
  show BitVec.ofNat 32 a ||| BitVec.ofNat 32 b = BitVec.ofNat 32 (a ||| b)
  exact (BitVec.ofNat_or).symm
theorem nI_xor (a b : Nat) : nI a ^^^ nI b = nI (a ^^^ b) := by
  apply Int32.toBitVec_inj.mp
  simp only [nI, Int32.toBitVec_xor]
  show BitVec.ofNat 32 a ^^^ BitVec.ofNat 32 b = BitVec.ofNat 32 (a ^^^ b)
  exact (BitVec.ofNat_xor).symm
/-- a bit as an int -/
def b2 (b : Bool) : Int32 := if b then 1 else 0
theorem b2_01 (b : Bool) : b2 b = 0 ∨ b2 b = 1 := by cases b <;> decide
theorem b2_0 (b : Bool) : b2 b = 0 ↔ b = false := by cases b <;> decide
theorem b2_nI (b : Bool) : b2 b = nI b.toNat := by cases b <;> rfl
theorem if_b2 {β : Type} {b : Bool} {x y : β} : (if b2 b = 0 then x else y) = if b = true then y else x := by cases b <;> rfl
/-! loops -/
theorem loopE {σ ρ : Type} (L : Nat → Nat → σ → Option ρ) (N : Nat) (I : Nat → σ → Prop) (Post : Option ρ → Prop)
    (hs : ∀ f i s, i < N → I i s → (∃ s', L (f + 1) i s = L f (i + 1) s' ∧ I (i + 1) s') ∨ Post (L (f + 1) i s)) (hf : ∀ f s, I N s → Post (L (f + 1) N s)) : ∀ (k i : Nat), i + k = N → ∀ f s, k < f → I i s → Post (L f i s) := by
  intro k
  induction k with
  | zero =>
    intro i hi f s hk hI
    obtain ⟨f, rfl⟩ : ∃ f', f = f' + 1 := ⟨f - 1, by omega⟩
    obtain rfl : i = N := by omega
    exact hf f s hI
  | succ k ih =>
    intro i hi f s hk hI
    obtain ⟨f, rfl⟩ : ∃ f', f = f' + 1 := ⟨f - 1, by omega⟩
    rcases hs f i s (by omega) hI with ⟨s', e, hI'⟩ | h
    · rw [e]; exact ih (i + 1) (by omega) f s' (by omega) hI'
    · exact h
/-- a loop whose state is known -/
theorem loopF {σ ρ : Type} (L : Nat → Nat → σ → Option ρ) (N : Nat) (S : Nat → σ) (r : Option ρ)
    (hs : ∀ f i, i < N → L (f + 1) i (S i) = L f (i + 1) (S (i + 1))) (hf : ∀ f, L (f + 1) N (S N) = r) (f : Nat) (hN : N < f) : L f 0 (S 0) = r := by
  refine loopE L N (fun i s => s = S i) (fun x => x = r) ?_ ?_ N 0 (by omega) f (S 0) hN rfl
  · rintro f i s hi rfl
    exact Or.inl ⟨S (i + 1), hs f i hi, rfl⟩
  · rintro f s rfl
    exact hf f
theorem nI_add1 (a : Nat) : nI a + 1 = nI (a + 1) := nI_1 a
theorem le_nI {a b : Nat} (ha : a < 2 ^ 31) (hb : b < 2 ^ 31) : (nI a ≤ nI b) = (a ≤ b) := propext (nI_leI ha hb)
theorem lt_nI {a b : Nat} (ha : a < 2 ^ 31) (hb : b < 2 ^ 31) : (nI a < nI b) = (a < b) := propext (nI_ltI ha hb)
theorem eq_nI {a b : Nat} (ha : a < 2 ^ 31) (hb : b < 2 ^ 31) : (nI a = nI b) = (a = b) := propext (nI_eq ha hb)
/-! the choir as the document has it, in numbers: n singers, vo voices, ra ranges, ki kinds; th who is there (bits); se seats, go goods, no notes, he who is held on (bits) -/
def seesB (n th : Nat) (se : Nat → Nat) (s o : Nat) : Bool := decide (o < n) && (decide (o ≠ s) && (th.testBit o && (decide (se s ≤ se o + 3) && decide (se o ≤ se s + 3))))
def isH (ki : Nat → Nat) (he i : Nat) : Bool := decide (ki i = 1) || he.testBit i
def envF (row : Nat → Nat) (seen : Nat → Bool) (s : Nat) : Nat → Option Nat × Nat
  | 0 => (none, row s)
  | k + 1 => if (seen k && decide ((envF row seen s k).2 < row k)) = true then (some k, row k) else envF row seen s k
def envy (n th : Nat) (ki se go no : Nat → Nat) (he s : Nat) : Option Nat := if isH ki he s = true then none else if ki s = 0 then (envF go (seesB n th se s) s 6).1 else if ki s = 3 then (envF no (seesB n th se s) s 6).1 else none
def eI (e : Option Nat) : Int32 := match e with
  | none => -9
  | some k => nI k
def clampN (v r x : Nat) : Nat := max (min x (v + r)) (v - r)
def nxt (n th : Nat) (vo ra ki se go no : Nat → Nat) (he s : Nat) : Nat := if isH ki he s = true then no s else match envy n th ki se go no he s with
  | none => vo s
  | some e => clampN (vo s) (ra s) (no e)
theorem envF_some {row : Nat → Nat} {seen : Nat → Bool} {s : Nat} : ∀ {k e : Nat}, (envF row seen s k).1 = some e → e < k ∧ seen e = true := by
  intro k
  induction k with
  | zero => intro e h; simp [envF] at h
  | succ k ih =>
    intro e h
    unfold envF at h
    split at h
    · rename_i hc
      simp at h hc
      subst h
      exact ⟨by omega, hc.1⟩
    · obtain ⟨a, b⟩ := ih h
      exact ⟨by omega, b⟩
theorem envF_stop {row : Nat → Nat} {seen : Nat → Bool} {s n : Nat} (h : ∀ o, n ≤ o → seen o = false) : ∀ d, envF row seen s (n + d) = envF row seen s n := by
  intro d
  induction d with
  | zero => rfl
  | succ d ih =>
    have e : envF row seen s (n + d + 1) = if (seen (n + d) && decide ((envF row seen s (n + d)).2 < row (n + d))) = true then (some (n + d), row (n + d)) else envF row seen s (n + d) := rfl
    rw [show n + (d + 1) = n + d + 1 from rfl, e, h (n + d) (by omega), ih]
    simp
theorem envF_congr {r1 r2 : Nat → Nat} {s1 s2 : Nat → Bool} {s : Nat} (h0 : r1 s = r2 s) (hs : ∀ o, s1 o = s2 o) (hr : ∀ o, s1 o = true → r1 o = r2 o) : ∀ k, envF r1 s1 s k = envF r2 s2 s k := by
  intro k
  induction k with
  | zero => simp [envF, h0]
  | succ k ih =>
    simp only [envF, ih, ← hs k]
    by_cases hk : s1 k = true
    · rw [hr k hk]
    · simp [hk]
theorem seesB_n {n th s : Nat} {se : Nat → Nat} {o : Nat} (h : n ≤ o) : seesB n th se s o = false := by
  have : ¬ o < n := by omega
  simp [seesB, this]
theorem seesB_lt {n th s : Nat} {se : Nat → Nat} {o : Nat} (h : seesB n th se s o = true) : o < n ∧ th.testBit o = true := by
  simp [seesB] at h
  exact ⟨h.1, h.2.2.1⟩
theorem envy_some {n th : Nat} {ki se go no : Nat → Nat} {he s e : Nat} (h : envy n th ki se go no he s = some e) : e < n ∧ th.testBit e = true := by
  unfold envy at h
  split at h
  · cases h
  · split at h
    · exact seesB_lt (envF_some h).2
    · split at h
      · exact seesB_lt (envF_some h).2
      · cases h
