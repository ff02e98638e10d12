def numF (n : Nat) (row : Nat → Nat) : Nat → Nat
  | 0 => 0
  | k + 1 => 10 * numF n row k + if k < n then row k else 0
theorem numF_lt {n : Nat} {row : Nat → Nat} (h : ∀ i, i < n → row i < 10) : ∀ k, numF n row k < 10 ^ k := by
  intro k
  induction k with
  | zero => simp [numF]
  | succ k ih =>
    simp only [numF, Nat.pow_succ]
    split
    · rename_i hk
      have := h k hk
      omega
    · omega
theorem numF_up {n : Nat} {row : Nat → Nat} : ∀ d, numF n row (n + d) = numF n row n * 10 ^ d := by
  intro d
  induction d with
  | zero => simp
  | succ d ih =>
    rw [show n + (d + 1) = n + d + 1 from rfl]
    simp only [numF]
    rw [if_neg (by omega), ih, Nat.pow_succ, Nat.add_zero, Nat.mul_comm 10, Nat.mul_assoc]
theorem numF_6 {n : Nat} (hn : n ≤ 6) {r1 r2 : Nat → Nat} : (numF n r1 6 = numF n r2 6) = (numF n r1 n = numF n r2 n) := by
  have e : 6 = n + (6 - n) := by omega
  have e1 : numF n r1 6 = numF n r1 n * 10 ^ (6 - n) := by
    have := numF_up (n := n) (row := r1) (6 - n)
    rw [← e] at this; exact this
  have e2 : numF n r2 6 = numF n r2 n * 10 ^ (6 - n) := by
    have := numF_up (n := n) (row := r2) (6 - n)
    rw [← e] at this; exact this
  rw [e1, e2]
  have : 0 < 10 ^ (6 - n) := Nat.pow_pos (by decide)
  exact propext ⟨fun q => Nat.eq_of_mul_eq_mul_right this q, fun q => by rw [q]⟩
theorem numF_congr {n : Nat} {r1 r2 : Nat → Nat} (h : ∀ i, i < n → r1 i = r2 i) : ∀ k, numF n r1 k = numF n r2 k := by
  intro k
  induction k with
  | zero => rfl
  | succ k ih =>
    simp only [numF, ih]
    by_cases hk : k < n
    · rw [if_pos hk, if_pos hk, h k hk]
    · rw [if_neg hk, if_neg hk]
theorem c_number {M : Mem} {o n : Nat} {se go no : Nat → Nat} {he ba : Nat} (h : cS M o n (2 ^ n - 1) se go no he ba) (hn : n ≤ 6) : f_X7_notesAsNumber o M = some (nI (numF n no 6)) := by
  have ht : 2 ^ n - 1 < 64 := Nat.lt_of_lt_of_le (full_lt n) (two6 hn)
  unfold f_X7_notesAsNumber
  refine loopF (fun f i (x : Int32) => f_X7_notesAsNumber_4 o M f x (nI i)) 6 (fun k => nI (numF n no k)) _ ?_ ?_ 100 (by decide)
  · intro f i hi
    show f_X7_notesAsNumber_4 o M (f + 1) (nI (numF n no i)) (nI i) = f_X7_notesAsNumber_4 o M f (nI (10 * numF n no i + if i < n then no i else 0)) (nI (i + 1))
    rw [f_X7_notesAsNumber_4, if_neg (n6i hi), c_isThere h.2.2.2.1 ht (by omega), tb_full]
    simp only [Option.bind_some, if_b2, if_gd hi (show 6 < 2 ^ 31 by decide)]
    unfold f_X7_notesAsNumber_32
    simp only [lt_]
    rw [nI_add1, tn_nI (by omega), show nI (numF n no i) * (10 : Int32) = nI (10 * numF n no i) from by rw [Nat.mul_comm]; exact pk_mul _ 10]
    by_cases c : i < n
    · rw [if_pos (by simpa using c), if_pos c, h.2.2.1 i c, nI_add]
    · rw [if_neg (by simpa using c), if_neg c, show nI (10 * numF n no i) + 0 = nI (10 * numF n no i) from nI_add _ 0]; rfl
  · intro f
    show f_X7_notesAsNumber_4 o M (f + 1) _ (nI 6) = _
    rw [f_X7_notesAsNumber_4, if_pos (show (6 : Int32) ≤ nI 6 from by decide)]
/-- the first return -/
def rdF (E : Nat → Nat → Bool) : Nat → Option (Nat × Nat)
  | 0 => none
  | k + 1 => match rdF E k with
    | some x => some x
    | none => (fstM (fun t => E k (k + 1 + t)) (60 - k)).map (fun t => (k, t + 1))
theorem rdF_miss {E : Nat → Nat → Bool} {k : Nat} (h : rdF E k = none) (h2 : fstM (fun t => E k (k + 1 + t)) (60 - k) = none) : rdF E (k + 1) = none := by
  simp only [rdF, h, h2]; rfl
theorem rdF_hit {E : Nat → Nat → Bool} {k t : Nat} (h : rdF E k = none) (h2 : fstM (fun t => E k (k + 1 + t)) (60 - k) = some t) : ∀ d, rdF E (k + 1 + d) = some (k, t + 1) := by
  intro d
  induction d with
  | zero => simp only [Nat.add_zero, rdF, h, h2]; rfl
  | succ d ih =>
    show rdF E (k + 1 + d + 1) = _
    simp only [rdF, ih]
def rdR (w : Nat) : Option (Nat × Nat) → Int32
  | none => -9
  | some x => if w = 0 then nI x.1 else nI x.2
theorem fstM_some {P : Nat → Bool} {i : Nat} (h : fstM P i = none) (hp : P i = true) {N : Nat} (hi : i < N) : fstM P N = some i := by
  have := fstM_hit h hp (N - (i + 1))
  rwa [show i + 1 + (N - (i + 1)) = N by omega] at this
theorem c_fr58 {M : Mem} {a : Nat → Nat} {w i : Nat} (hw : w < 2) (ha : ∀ j, j < 61 → M.1 24 1 j = nI (a j) ∧ a j < 2 ^ 31) (hi : i < 60) (k48 : Int32 → Int32 → Mem → Option (Int32 × Mem)) : f_X2_firstReturn_58 k48 100 (nI w) (nI i) (nI (i + 1)) M = match fstM (fun t => decide (a i = a (i + 1 + t))) (60 - i) with
    | some t => some (if w = 0 then nI i else nI (t + 1), M)
    | none => k48 (nI w) (nI (i + 1)) M := by
  obtain ⟨P, hP⟩ : ∃ P : Nat → Bool, P = fun t => decide (a i = a (i + 1 + t)) := ⟨_, rfl⟩
  rw [← hP]
  have kw : (nI w = 0) = (w = 0) := eq_nI (b := 0) (by omega) (by decide)
  have := loopE (fun f t (_ : Unit) => f_X2_firstReturn_58 k48 f (nI w) (nI i) (nI (i + 1 + t)) M) (60 - i) (fun t _ => fstM P t = none) (fun r => r = match fstM P (60 - i) with
    | some t => some (if w = 0 then nI i else nI (t + 1), M)
    | none => k48 (nI w) (nI (i + 1)) M) ?_ ?_ (60 - i) 0 (by omega) 100 () (by omega) rfl
  · exact this
  · rintro f t _ ht hf
    show (∃ s' : Unit, f_X2_firstReturn_58 k48 (f + 1) (nI w) (nI i) (nI (i + 1 + t)) M = _ ∧ _) ∨ f_X2_firstReturn_58 k48 (f + 1) (nI w) (nI i) (nI (i + 1 + t)) M = _
    have hj : i + 1 + t < 61 := by omega
    rw [f_X2_firstReturn_58, if_neg (show ¬ (60 : Int32) < nI (i + 1 + t) from fun q => absurd ((nI_ltI (a := 60) (by decide) (by omega)).mp q) (by omega)), if_gd (show i < 61 by omega) (by decide), if_gd hj (by decide), tn_nI (by omega), tn_nI (by omega), (ha i (by omega)).1, (ha _ hj).1]
    have k1 : (nI (a i) = nI (a (i + 1 + t))) = (a i = a (i + 1 + t)) := eq_nI (ha i (by omega)).2 (ha _ hj).2
    simp only [k1, kw, lt_]
    by_cases c : a i = a (i + 1 + t)
    · right
      rw [if_pos c, fstM_some hf (by rw [hP]; simpa using c) ht]
      unfold f_X2_firstReturn_90
      rw [show nI (i + 1 + t) - nI i = nI (t + 1) from by
        have := pk_sub (a := i + 1 + t) (b := i) (by omega)
        rw [this]; congr 1; omega]
      split <;> rfl
    · left
      refine ⟨(), ?_, fstM_miss hf (by rw [hP]; simpa using c)⟩
      rw [if_neg c, nI_add1]
      rfl
  · rintro f _ hf
    show f_X2_firstReturn_58 k48 (f + 1) (nI w) (nI i) (nI (i + 1 + (60 - i))) M = _
    rw [f_X2_firstReturn_58, if_pos (show (60 : Int32) < nI (i + 1 + (60 - i)) from by rw [show i + 1 + (60 - i) = 61 by omega]; decide), hf]
    simp only [lt_, nI_add1]
theorem c_fr48 {M : Mem} {a : Nat → Nat} {w : Nat} (hw : w < 2) (ha : ∀ j, j < 61 → M.1 24 1 j = nI (a j) ∧ a j < 2 ^ 31) : f_X2_firstReturn_48 100 (nI w) 0 M = some (rdR w (rdF (fun i j => decide (a i = a j)) 60), M) := by
  obtain ⟨E, hE⟩ : ∃ E : Nat → Nat → Bool, E = fun i j => decide (a i = a j) := ⟨_, rfl⟩
  rw [← hE]
  have := loopE (fun f i (_ : Unit) => f_X2_firstReturn_48 f (nI w) (nI i) M) 60 (fun i _ => rdF E i = none) (fun r => r = some (rdR w (rdF E 60), M)) ?_ ?_ 60 0 (by omega) 100 () (by omega) rfl
  · exact this
  · rintro f i _ hi hf
    show (∃ s' : Unit, f_X2_firstReturn_48 (f + 1) (nI w) (nI i) M = _ ∧ _) ∨ f_X2_firstReturn_48 (f + 1) (nI w) (nI i) M = _
    rw [f_X2_firstReturn_48, if_neg (show ¬ (60 : Int32) ≤ nI i from fun q => absurd ((nI_leI (a := 60) (by decide) (by omega)).mp q) (by omega))]
    simp only [lt_]
    rw [nI_add1, c_fr58 hw ha hi]
    rcases h2 : fstM (fun t => decide (a i = a (i + 1 + t))) (60 - i) with _ | t
    · left
      exact ⟨(), rfl, rdF_miss hf (by rw [hE]; exact h2)⟩
    · right
      have := rdF_hit hf (t := t) (by rw [hE]; exact h2) (60 - (i + 1))
      rw [show i + 1 + (60 - (i + 1)) = 60 by omega] at this
      rw [this]; rfl
  · rintro f _ hf
    show f_X2_firstReturn_48 (f + 1) (nI w) (nI 60) M = _
    rw [f_X2_firstReturn_48, if_pos (show (60 : Int32) ≤ nI 60 from by decide), hf]
    rfl
theorem m_rd27 {M : Mem} {a : Nat → Nat} {w i : Nat} (hw : w < 2) (ha : ∀ j, j < 61 → M.1 27 9 j = nI (a j) ∧ a j < 2 ^ 31) (hi : i < 60) (k48 : Int32 → Int32 → Mem → Option (Int32 × Mem)) : f_X10_round_27 k48 100 (nI w) (nI i) 1 M = match fstM (fun t => decide (a i = a (i + 1 + t))) (60 - i) with
    | some t => some (if w = 0 then nI i else nI (t + 1), M)
    | none => k48 (nI w) (nI (i + 1)) M := by
  obtain ⟨P, hP⟩ : ∃ P : Nat → Bool, P = fun t => decide (a i = a (i + 1 + t)) := ⟨_, rfl⟩
  rw [← hP]
  have kw : (nI w = 0) = (w = 0) := eq_nI (b := 0) (by omega) (by decide)
  have := loopE (fun f t (_ : Unit) => f_X10_round_27 k48 f (nI w) (nI i) (nI (t + 1)) M) (60 - i) (fun t _ => fstM P t = none) (fun r => r = match fstM P (60 - i) with
    | some t => some (if w = 0 then nI i else nI (t + 1), M)
    | none => k48 (nI w) (nI (i + 1)) M) ?_ ?_ (60 - i) 0 (by omega) 100 () (by omega) rfl
  · exact this
  · rintro f t _ ht hf
    show (∃ s' : Unit, f_X10_round_27 k48 (f + 1) (nI w) (nI i) (nI (t + 1)) M = _ ∧ _) ∨ f_X10_round_27 k48 (f + 1) (nI w) (nI i) (nI (t + 1)) M = _
    have hj : i + (t + 1) < 61 := by omega
    rw [f_X10_round_27, nI_add, if_neg (show ¬ (60 : Int32) < nI (i + (t + 1)) from fun q => absurd ((nI_ltI (a := 60) (by decide) (by omega)).mp q) (by omega)), if_gd (show i < 61 by omega) (by decide)]
    simp only [lt_]
    rw [if_gd hj (by decide), tn_nI (by omega), tn_nI (by omega), (ha i (by omega)).1, (ha _ hj).1, show i + (t + 1) = i + 1 + t by omega]
    have k1 : (nI (a i) = nI (a (i + 1 + t))) = (a i = a (i + 1 + t)) := eq_nI (ha i (by omega)).2 (ha _ (by omega)).2
    simp only [k1, kw]
    by_cases c : a i = a (i + 1 + t)
    · right
      rw [if_pos c, fstM_some hf (by rw [hP]; simpa using c) ht]
      unfold f_X10_round_61
      split <;> rfl
    · left
      refine ⟨(), ?_, fstM_miss hf (by rw [hP]; simpa using c)⟩
      rw [if_neg c, nI_add1]
  · rintro f _ hf
    show f_X10_round_27 k48 (f + 1) (nI w) (nI i) (nI (60 - i + 1)) M = _
    rw [f_X10_round_27, nI_add, if_pos (show (60 : Int32) < nI (i + (60 - i + 1)) from by rw [show i + (60 - i + 1) = 61 by omega]; decide), hf]
    simp only [lt_, nI_add1]
theorem m_rd19 {M : Mem} {a : Nat → Nat} {w : Nat} (hw : w < 2) (ha : ∀ j, j < 61 → M.1 27 9 j = nI (a j) ∧ a j < 2 ^ 31) : f_X10_round_19 100 (nI w) 0 M = some (rdR w (rdF (fun i j => decide (a i = a j)) 60), M) := by
  obtain ⟨E, hE⟩ : ∃ E : Nat → Nat → Bool, E = fun i j => decide (a i = a j) := ⟨_, rfl⟩
  rw [← hE]
  have := loopE (fun f i (_ : Unit) => f_X10_round_19 f (nI w) (nI i) M) 60 (fun i _ => rdF E i = none) (fun r => r = some (rdR w (rdF E 60), M)) ?_ ?_ 60 0 (by omega) 100 () (by omega) rfl
  · exact this
  · rintro f i _ hi hf
    show (∃ s' : Unit, f_X10_round_19 (f + 1) (nI w) (nI i) M = _ ∧ _) ∨ f_X10_round_19 (f + 1) (nI w) (nI i) M = _
    rw [f_X10_round_19, if_neg (show ¬ (60 : Int32) ≤ nI i from fun q => absurd ((nI_leI (a := 60) (by decide) (by omega)).mp q) (by omega))]
    rw [m_rd27 hw ha hi]
    rcases h2 : fstM (fun t => decide (a i = a (i + 1 + t))) (60 - i) with _ | t
    · left
      exact ⟨(), rfl, rdF_miss hf (by rw [hE]; exact h2)⟩
    · right
      have := rdF_hit hf (t := t) (by rw [hE]; exact h2) (60 - (i + 1))
      rw [show i + 1 + (60 - (i + 1)) = 60 by omega] at this
      rw [this]; rfl
  · rintro f _ hf
    show f_X10_round_19 (f + 1) (nI w) (nI 60) M = _
    rw [f_X10_round_19, if_pos (show (60 : Int32) ≤ nI 60 from by decide), hf]
    rfl
theorem rdF_congr {E F : Nat → Nat → Bool} (h : ∀ i j, E i j = F i j) (k : Nat) : rdF E k = rdF F k := by
  have : E = F := funext fun i => funext fun j => h i j
  rw [this]
theorem c_round {M : Mem} {n w : Nat} {vo ra ki se go no : Nat → Nat} {he ba : Nat} (hN : Now M n vo ra ki se go no he ba) (hw : w < 2) : ∃ M', f_X2_firstReturn (nI w) M = some (rdR w (rdF (fun i j => decide (numF n (itr n (2 ^ n - 1) vo ra ki se go no he i) 6 = numF n (itr n (2 ^ n - 1) vo ra ki se go no he j) 6)) 60), M') ∧ Alk PC M M' := by
  obtain ⟨oR, hcR, hmR, ok, hcS, hmS, hTh⟩ := id hN
  have hn := oR.1
  obtain ⟨M1, e1, A1, S1, N1⟩ := c_lay hN
  have hlt : ∀ j, numF n (itr n (2 ^ n - 1) vo ra ki se go no he j) 6 < 10 ^ 6 := fun j => numF_lt (fun i hi => ((okS_itr oR ok j).2.1 i hi).2.2) 6
  unfold f_X2_firstReturn
  rw [e1]
  simp only [Option.bind_some]
  refine loopE (fun f i (M2 : Mem) => f_X2_firstReturn_13 f (nI w) (nI i) M2) 61 (fun i M2 => Alk PC M M2 ∧ cS M2 1 n (2 ^ n - 1) se go (itr n (2 ^ n - 1) vo ra ki se go no he i) he ba ∧ ∀ j, j < i → M2.1 24 1 j = nI (numF n (itr n (2 ^ n - 1) vo ra ki se go no he j) 6)) (fun r => ∃ M', r = some (rdR w (rdF (fun i j => decide (numF n (itr n (2 ^ n - 1) vo ra ki se go no he i) 6 = numF n (itr n (2 ^ n - 1) vo ra ki se go no he j) 6)) 60), M') ∧ Alk PC M M') ?_ ?_ 61 0 (by omega) 100 M1 (by omega) ⟨A1, S1, fun j hj => absurd hj (by omega)⟩
  · rintro f i M2 hi ⟨A2, S2, h2⟩
    left
    have A3 : Alk (fun a b => a = 24 ∧ b = 1) M2 (sw M2 24 1 i (nI (numF n (itr n (2 ^ n - 1) vo ra ki se go no he i) 6))) := Alk.sw ⟨rfl, rfl⟩
    have A3' : Alk PC M2 (sw M2 24 1 i (nI (numF n (itr n (2 ^ n - 1) vo ra ki se go no he i) 6))) := A3.wk (fun a b e => by omega)
    have S3 := cS_alk S2 A3 (fun b _ e => by omega)
    obtain ⟨M4, e4, A4, S4⟩ := c_goOn (m := 1) (Now_c hN (A2.tr A3')).2.1 oR S3 (okS_itr oR ok i) (by decide) (by decide)
    refine ⟨M4, ?_, (A2.tr A3').tr (A4.wk (fun a b e => by omega)), by rw [itr_1] at S4; exact S4, fun j hj => ?_⟩
    · show f_X2_firstReturn_13 (f + 1) (nI w) (nI i) M2 = _
      rw [f_X2_firstReturn_13, if_neg (show ¬ (60 : Int32) < nI i from fun q => absurd ((nI_ltI (a := 60) (by decide) (by omega)).mp q) (by omega)), c_number S2 hn]
      simp only [Option.bind_some, if_gd hi (show 61 < 2 ^ 31 by decide), lt_]
      rw [tn_nI (by omega), show f_X7_goOn 1 1 _ = some M4 from e4]
      simp only [Option.bind_some, nI_add1]
    · rw [A4.1 24 1 (by omega), sw_same]
      by_cases e : j = i
      · rw [e, upd_same]
      · rw [upd_ne e]; exact h2 j (by omega)
  · rintro f M2 ⟨A2, S2, h2⟩
    refine ⟨M2, ?_, A2⟩
    show f_X2_firstReturn_13 (f + 1) (nI w) (nI 61) M2 = _
    rw [f_X2_firstReturn_13, if_pos (show (60 : Int32) < nI 61 by decide)]
    exact c_fr48 hw (fun j hj => ⟨h2 j hj, by have := hlt j; omega⟩)
theorem m_round {M : Mem} {n w : Nat} {vo ra ki se go no : Nat → Nat} {he ba : Nat} (hN : Now M n vo ra ki se go no he ba) (hw : w < 2) : ∃ M', (f_X10_singAll M).bind (fun q3 => f_X10_round_19 100 (nI w) 0 q3) = some (rdR w (rdF (fun i j => decide (numF n (itA n 63 vo ra ki se go no he i) n = numF n (itA n 63 vo ra ki se go no he j) n)) 60), M') ∧ QM M M' := by
  obtain ⟨oR, hcR, hmR, ok, hcS, hmS, hTh⟩ := id hN
  have hn := oR.1
  obtain ⟨M1, e1, A1, S1, o1⟩ := m_lay hn hmS
  obtain ⟨I, hI⟩ : ∃ I, I = fun i => itA n 63 vo ra ki se go no he i := ⟨_, rfl⟩
  have okb : ∀ i, okB n se go (I i) he := fun i => by rw [hI]; exact okB_itA (th := 63) oR (okS_B ok) i
  have hlt : ∀ j, numF n (I j) n < 10 ^ 6 := fun j => Nat.lt_of_lt_of_le (numF_lt (fun i hi => ((okb j).1 i hi).2.2) n) (Nat.pow_le_pow_right (by decide) hn)
  have key : ∃ M', f_X10_singAll_6 100 0 M1 = some M' ∧ QM M M' ∧ ∀ j, j < 61 → M'.1 27 9 j = nI (numF n (I j) n) := by
    refine loopE (fun f i (M2 : Mem) => f_X10_singAll_6 f (nI i) M2) 61 (fun i M2 => QM M M2 ∧ mS M2 1 n se go (I i) he (ba + i) ∧ mR M2 n vo ra ki ∧ mT M2 63 ∧ ∀ j, j < i → M2.1 27 9 j = nI (numF n (I j) n)) (fun r => ∃ M', r = some M' ∧ QM M M' ∧ ∀ j, j < 61 → M'.1 27 9 j = nI (numF n (I j) n)) ?_ ?_ 61 0 (by omega) 100 M1 (by omega) ⟨QM.of4 A1 o1, by rw [hI]; exact S1, mR_alk hmR A1 (fun b _ e => by omega), mT_alk hTh A1 (by omega), fun j hj => absurd hj (by omega)⟩
    · rintro f i M2 hi ⟨Q2, S2, R2, T2, h2⟩
      left
      have inner : ∃ M', f_X10_singAll_21 (f_X10_singAll_6 f) 100 (nI i) 0 (sw M2 27 9 i 0) = f_X10_singAll_6 f (nI (i + 1)) M' ∧ QM M M' ∧ mS M' 1 n se go (I (i + 1)) he (ba + (i + 1)) ∧ mR M' n vo ra ki ∧ mT M' 63 ∧ ∀ j, j < i + 1 → M'.1 27 9 j = nI (numF n (I j) n) := by
        refine loopE (fun g k (M3 : Mem) => f_X10_singAll_21 (f_X10_singAll_6 f) g (nI i) (nI k) M3) n (fun k M3 => Alk (fun a b => a = 27 ∧ b = 9) M2 M3 ∧ (∀ j, j ≠ i → M3.1 27 9 j = M2.1 27 9 j) ∧ M3.1 27 9 i = nI (numF n (I i) k)) (fun r => ∃ M', r = f_X10_singAll_6 f (nI (i + 1)) M' ∧ QM M M' ∧ mS M' 1 n se go (I (i + 1)) he (ba + (i + 1)) ∧ mR M' n vo ra ki ∧ mT M' 63 ∧ ∀ j, j < i + 1 → M'.1 27 9 j = nI (numF n (I j) n)) ?_ ?_ n 0 (by omega) 100 _ (by omega) ⟨Alk.sw ⟨rfl, rfl⟩, fun j hj => by rw [sw_same, upd_ne hj], by rw [sw_same, upd_same]; rfl⟩
        · rintro g k M3 hk ⟨A3, o3, h3⟩
          left
          have S3 := mS_alk S2 A3 (by omega)
          have R3 := mR_alk R2 A3 (fun b _ e => by omega)
          refine ⟨sw M3 27 9 i (nI (numF n (I i) (k + 1))), ?_, A3.tr (Alk.sw ⟨rfl, rfl⟩), fun j hj => by rw [sw_same, upd_ne hj]; exact o3 j hj, by rw [sw_same, upd_same]⟩
          show f_X10_singAll_21 (f_X10_singAll_6 f) (g + 1) (nI i) (nI k) M3 = _
          rw [f_X10_singAll_21, R3.2.2.2, if_neg (nI_ge hk (by omega))]
          simp only [if_gd hi (show 61 < 2 ^ 31 by decide), lt_]
          rw [show (32 : Int32) + nI k = nI (32 + k) from nI_add 32 k, if_gd (show 32 + k < 40 by omega) (by decide), tn_nI (by omega), tn_nI (by omega), h3, show M3.1 27 4 (32 + k) = nI (I i k) from S3.2.2.1 k hk, show (10 : Int32) * nI (numF n (I i) k) = nI (10 * numF n (I i) k) from pk_mul 10 _, nI_add, nI_add1]
          simp only [numF, if_pos hk]
        · rintro g M3 ⟨A3, o3, h3⟩
          have S3 := mS_alk S2 A3 (by omega)
          have R3 := mR_alk R2 A3 (fun b _ e => by omega)
          have T3 := mT_alk T2 A3 (by omega)
          obtain ⟨M4, e4, A4, S4, o4⟩ := m_passOn (lv := 1) R3 oR S3 T3 (by decide) (okb i) (by decide)
          have Q3 : QM M2 M3 := ⟨fun a b q => A3.1 a b (by omega), fun k _ => by rw [A3.1 27 4 (by omega)], fun k _ => by rw [A3.1 27 0 (by omega)], A3.2⟩
          refine ⟨M4, ?_, (Q2.tr Q3).tr (QM.of A4 (fun k hk => o4 k (by omega))), by subst hI; exact S4, mR_alk R3 A4 (fun b _ e => by omega), mT_alk T3 A4 (by omega), fun j hj => ?_⟩
          · show f_X10_singAll_21 (f_X10_singAll_6 f) (g + 1) (nI i) (nI n) M3 = _
            rw [f_X10_singAll_21, R3.2.2.2, if_pos (nI_le (Nat.le_refl n) (by omega)), show f_X10_passOn 1 M3 = some M4 from e4]
            simp only [Option.bind_some, lt_, nI_add1]
          · rw [A4.1 27 9 (by omega)]
            by_cases e : j = i
            · rw [e]; exact h3
            · rw [o3 j e]; exact h2 j (by omega)
      obtain ⟨M', e', h'⟩ := inner
      refine ⟨M', ?_, h'⟩
      show f_X10_singAll_6 (f + 1) (nI i) M2 = _
      rw [f_X10_singAll_6, if_neg (show ¬ (60 : Int32) < nI i from fun q => absurd ((nI_ltI (a := 60) (by decide) (by omega)).mp q) (by omega)), if_gd hi (by decide)]
      simp only [lt_]
      rw [tn_nI (by omega)]
      exact e'
    · rintro f M2 ⟨Q2, -, -, -, h2⟩
      refine ⟨M2, ?_, Q2, h2⟩
      show f_X10_singAll_6 (f + 1) (nI 61) M2 = _
      rw [f_X10_singAll_6, if_pos (show (60 : Int32) < nI 61 by decide)]
  obtain ⟨M', e', Q', h'⟩ := key
  refine ⟨M', ?_, Q'⟩
  unfold f_X10_singAll
  rw [e1]
  simp only [Option.bind_some]
  rw [e']
  simp only [Option.bind_some]
  rw [m_rd19 (a := fun j => numF n (I j) n) hw (fun j hj => ⟨h' j hj, by have := hlt j; omega⟩), hI]
theorem op_round (v : Int32) : Op (f_X9_round v) (f_X10_round v) := by
  intro M hI
  obtain ⟨⟨n, vo, ra, ki, se, go, no, he, ba, hN, -, -⟩, -, -, -⟩ := id hI
  have hn := hN.1.1
  unfold f_X9_round f_X10_round
  simp only [c_within, Option.bind_some, if_b2]
  rw [show f_X10_in v.toInt64 0 1 = fun M => some (b2 (wi 0 1 v)) from funext fun M => m_within]
  simp only [Option.bind_some, if_b2]
  by_cases h : wi 0 1 v = true
  · obtain ⟨w, rfl, -, hw⟩ := wi_true (lo := 0) (hi := 1) h (by decide)
    have hw2 : w < 2 := by omega
    refine opQ hI (r := rdR w (rdF (fun i j => decide (numF n (itr n (2 ^ n - 1) vo ra ki se go no he i) 6 = numF n (itr n (2 ^ n - 1) vo ra ki se go no he j) 6)) 60)) ?_ ?_
    · obtain ⟨M', e', A'⟩ := c_round hN hw2
      refine ⟨M', ?_, A'⟩
      rw [show (0 : Int32).toInt = 0 from rfl, show (1 : Int32).toInt = 1 from rfl, if_pos h]
      unfold f_X9_round_23 f_X9_round_31
      rcases (show w = 0 ∨ w = 1 by omega) with rfl | rfl
      · rw [if_neg (show ¬ nI 0 = 1 by decide), show (0 : Int32) = nI 0 from rfl, e']; rfl
      · rw [if_pos (show nI 1 = 1 by decide), show (1 : Int32) = nI 1 from rfl, e']; rfl
    · intro M1 A1
      obtain ⟨M', e', Q'⟩ := m_round (Now_c hN A1) hw2
      refine ⟨M', ?_, Q'⟩
      rw [if_pos h, e']
      congr 2
      congr 1
      apply congrFun
      apply congrArg
      funext i j
      congr 1
      rw [numF_6 hn, numF_congr (r1 := itA n 63 vo ra ki se go no he i) (r2 := itr n (2 ^ n - 1) vo ra ki se go no he i) (fun k hk => by rw [itA_63 hn]; exact itA_full i k hk), numF_congr (r1 := itA n 63 vo ra ki se go no he j) (r2 := itr n (2 ^ n - 1) vo ra ki se go no he j) (fun k hk => by rw [itA_63 hn]; exact itA_full j k hk)]
  · exact ⟨-2, M, M, by rw [show (0 : Int32).toInt = 0 from rfl, show (1 : Int32).toInt = 1 from rfl, if_neg h]; rfl, by rw [if_neg h], hI⟩
