/-! some of the singers, fractions -/
def facN : Nat → Nat
  | 0 => 1
  | k + 1 => (k + 1) * facN k
theorem c_fac {M : Mem} {k : Nat} (hk : k ≤ 6) : f_X1_factorial (nI k) M = some (nI (facN k)) := by
  unfold f_X1_factorial f_X1_factorial_21
  rw [if_neg (nI_pos (by omega)), if_neg (show ¬ (7 : Int32) ≤ nI k from fun q => absurd ((nI_leI (a := 7) (by decide) (by omega)).mp q) (by omega)), if_gd (show k < 7 by omega) (by decide), tn_nI (by omega)]
  have : ∀ k, k < 7 → facs k = nI (facN k) := by decide +kernel
  rw [this k (by omega)]
theorem m_fac {M : Mem} {k : Nat} (hk : k ≤ 6) : f_X10_factorial (nI k) M = some (nI (facN k)) := by
  unfold f_X10_factorial
  rcases Nat.lt_or_ge k 2 with h | h
  · rw [f_X10_factorial_4, if_pos (show nI k < 2 from (nI_ltI (b := 2) (by omega) (by decide)).mpr h)]
    rcases (show k = 0 ∨ k = 1 by omega) with rfl | rfl <;> rfl
  · have := loopE (fun f i (x : Nat) => f_X10_factorial_4 M f (nI k) (nI x) (nI i)) (k + 1) (fun i x => 2 ≤ i ∧ x = facN (i - 1)) (fun r => r = some (nI (facN k))) ?_ ?_ (k - 1) 2 (by omega) 100 1 (by omega) ⟨by omega, rfl⟩
    · exact this
    · rintro f i x hi ⟨h2, rfl⟩
      left
      refine ⟨facN i, ?_, by omega, rfl⟩
      show f_X10_factorial_4 M (f + 1) (nI k) (nI (facN (i - 1))) (nI i) = _
      rw [f_X10_factorial_4, if_neg (nI_nlt (by omega) (by omega)), lt_, lt_, pk_mul, nI_add1]
      obtain ⟨j, rfl⟩ : ∃ j, i = j + 1 := ⟨i - 1, by omega⟩
      rw [show j + 1 - 1 = j from rfl, Nat.mul_comm]
      rfl
    · rintro f x ⟨h2, rfl⟩
      show f_X10_factorial_4 M (f + 1) (nI k) (nI (facN (k + 1 - 1))) (nI (k + 1)) = _
      rw [f_X10_factorial_4, if_pos (nI_lt (by omega) (by omega))]
      rfl
theorem m_gcd {M : Mem} : ∀ k a b f, b < 2 ^ k → a < 2 ^ 31 → b < 2 ^ 31 → 2 * k < f → f_X10_common_13 M f (nI a) (nI b) = some (nI (Nat.gcd a b)) := by
  intro k
  induction k with
  | zero =>
    intro a b f hb ha _ hf
    obtain ⟨f, rfl⟩ : ∃ f', f = f' + 1 := ⟨f - 1, by omega⟩
    obtain rfl : b = 0 := by simpa using hb
    rw [f_X10_common_13, if_pos (show nI 0 = 0 from rfl), Nat.gcd_zero_right]
  | succ k ih =>
    intro a b f hb ha hb2 hf
    obtain ⟨f, rfl⟩ : ∃ f', f = f' + 2 := ⟨f - 2, by omega⟩
    rw [show f + 2 = (f + 1) + 1 from rfl, f_X10_common_13]
    rcases Nat.eq_zero_or_pos b with rfl | h0
    · rw [if_pos (show nI 0 = 0 from rfl), Nat.gcd_zero_right]
    · rw [if_neg (nI_ne0 h0 hb2), if_pos (nI_ne0 h0 hb2), lt_, pk_rem ha h0 hb2, f_X10_common_13]
      have hlt := Nat.mod_lt a h0
      rcases Nat.eq_zero_or_pos (a % b) with e | h1
      · rw [e, if_pos (show nI 0 = 0 from rfl), Nat.gcd_comm, Nat.gcd_rec, e, Nat.gcd_zero_left]
      · rw [if_neg (nI_ne0 h1 (by omega)), if_pos (nI_ne0 h1 (by omega)), lt_, pk_rem hb2 h1 (by omega), ih _ _ f ?_ (by omega) (by have := Nat.mod_lt b h1; omega) (by omega)]
        · rw [Nat.gcd_comm a b, Nat.gcd_rec b a, Nat.gcd_comm (a % b) b, Nat.gcd_rec b (a % b), Nat.gcd_comm (a % b % b) b]
          rw [Nat.mod_eq_of_lt hlt, Nat.gcd_comm b (a % b), Nat.gcd_rec (a % b) b, Nat.gcd_comm]
        · have e := Nat.div_add_mod b (a % b)
          have q : 1 ≤ b / (a % b) := Nat.div_pos (by omega) h1
          have q2 : a % b ≤ (a % b) * (b / (a % b)) := Nat.le_mul_of_pos_right _ q
          have q3 := Nat.mod_lt b h1
          rw [Nat.pow_succ] at hb
          omega
theorem c_gcd {M : Mem} : ∀ k a b i f, b < 2 ^ k → a < 2 ^ 31 → b < 2 ^ 31 → 2 * k < f → i + 2 * k ≤ 63 → f_X9_greatestDivisor_7 M f (nI a) (nI b) (nI i) = some (nI (Nat.gcd a b)) := by
  intro k
  have n64 : ∀ i, i ≤ 63 → ¬ (64 : Int32) ≤ nI i := fun i hi q => absurd ((nI_leI (a := 64) (by decide) (by omega)).mp q) (by omega)
  induction k with
  | zero =>
    intro a b i f hb ha _ hf hi
    obtain ⟨f, rfl⟩ : ∃ f', f = f' + 1 := ⟨f - 1, by omega⟩
    obtain rfl : b = 0 := by simpa using hb
    rw [f_X9_greatestDivisor_7, if_neg (n64 i (by omega)), if_pos (show nI 0 = 0 from rfl), Nat.gcd_zero_right]
    rfl
  | succ k ih =>
    intro a b i f hb ha hb2 hf hi
    obtain ⟨f, rfl⟩ : ∃ f', f = f' + 2 := ⟨f - 2, by omega⟩
    rw [show f + 2 = (f + 1) + 1 from rfl, f_X9_greatestDivisor_7, if_neg (n64 i (by omega))]
    rcases Nat.eq_zero_or_pos b with rfl | h0
    · rw [if_pos (show nI 0 = 0 from rfl), Nat.gcd_zero_right]; rfl
    · rw [if_neg (nI_ne0 h0 hb2), if_pos (nI_ne0 h0 hb2), lt_, lt_, pk_rem ha h0 hb2, nI_add1, f_X9_greatestDivisor_7, if_neg (n64 (i + 1) (by omega))]
      have hlt := Nat.mod_lt a h0
      rcases Nat.eq_zero_or_pos (a % b) with e | h1
      · rw [e, if_pos (show nI 0 = 0 from rfl), Nat.gcd_comm, Nat.gcd_rec, e, Nat.gcd_zero_left]; rfl
      · rw [if_neg (nI_ne0 h1 (by omega)), if_pos (nI_ne0 h1 (by omega)), lt_, lt_, pk_rem hb2 h1 (by omega), nI_add1, ih _ _ _ f ?_ (by omega) (by have := Nat.mod_lt b h1; omega) (by omega) (by omega)]
        · rw [Nat.gcd_comm a b, Nat.gcd_rec b a, Nat.gcd_comm (a % b) b, Nat.gcd_rec b (a % b), Nat.gcd_comm (a % b % b) b]
          rw [Nat.mod_eq_of_lt hlt, Nat.gcd_comm b (a % b), Nat.gcd_rec (a % b) b, Nat.gcd_comm]
        · have e := Nat.div_add_mod b (a % b)
          have q : 1 ≤ b / (a % b) := Nat.div_pos (by omega) h1
          have q2 : a % b ≤ (a % b) * (b / (a % b)) := Nat.le_mul_of_pos_right _ q
          have q3 := Nat.mod_lt b h1
          rw [Nat.pow_succ] at hb
          omega
/-- a number that is a small difference -/
def Bd (x : Int32) (B : Nat) : Prop := ∃ a b : Nat, a ≤ B ∧ b ≤ B ∧ x = nI a - nI b
theorem Bd_abs {x : Int32} {B : Nat} (h : Bd x B) (hB : B < 2 ^ 30) : ∃ d, d ≤ B ∧ (if 0 ≤ x then x else 0 - x) = nI d ∧ (if 0 ≤ x then x else -x) = nI d := by
  obtain ⟨a, b, ha, hb, rfl⟩ := h
  by_cases c : b ≤ a
  · rw [pk_sub c]
    rw [if_pos (nI_pos' (by omega)), if_pos (nI_pos' (by omega))]
    exact ⟨a - b, by omega, rfl, rfl⟩
  · have hneg := pk_sneg (a := a) (b := b) (by omega) (by omega)
    have hn : ¬ 0 ≤ nI a - nI b := by
      rw [Int32.le_iff_toInt_le]
      rw [Int32.lt_iff_toInt_lt] at hneg
      omega
    rw [if_neg hn, if_neg hn]
    have e : -(nI a - nI b) = nI (b - a) := by
      rw [Int32.neg_sub, pk_sub (by omega)]
    have e2 : 0 - (nI a - nI b) = nI (b - a) := by
      rw [Int32.zero_sub, e]
    exact ⟨b - a, by omega, e2, e⟩
def frac (d D : Nat) (x v : Int32) : Int32 := if v = 0 then nI D / nI (Nat.gcd d D) else x / nI (Nat.gcd d D)
theorem gcd_pos {d D : Nat} (h : 0 < D) (hD : D < 2 ^ 31) : ¬ nI (Nat.gcd d D) = 0 := nI_ne0 (Nat.gcd_pos_of_pos_right _ h) (Nat.lt_of_le_of_lt (Nat.gcd_le_right _ h) hD)
theorem c_side {M : Mem} {x v : Int32} {d D : Nat} (h : (if 0 ≤ x then x else 0 - x) = nI d) (hd : d < 2 ^ 31) (hD : 0 < D) (hD2 : D < 2 ^ 20) : f_X9_sideOfFraction x (nI D) v M = some (frac d D x v) := by
  have g := gcd_pos (d := d) hD (by omega)
  unfold f_X9_sideOfFraction f_X9_greatestDivisor f_X9_sideOfFraction_28 frac
  rw [lt_, h, show f_X9_greatestDivisor_7 M 100 (nI d) (nI D) 0 = some (nI (Nat.gcd d D)) from c_gcd 20 d D 0 100 hD2 hd (by omega) (by omega) (by omega)]
  simp only [Option.bind_some, if_neg g, if_pos g]
  split <;> rfl
theorem m_common {M : Mem} {x : Int32} {d D : Nat} (h : (if 0 ≤ x then x else -x) = nI d) (hd : d < 2 ^ 31) (hD2 : D < 2 ^ 20) : f_X10_common x (nI D) M = some (nI (Nat.gcd d D)) := by
  unfold f_X10_common f_X10_common_10
  by_cases c : 0 ≤ x
  · rw [if_pos c] at h
    rw [if_pos c, h]
    exact m_gcd 20 d D 100 hD2 hd (by omega) (by omega)
  · rw [if_neg c] at h
    rw [if_neg c, h]
    exact m_gcd 20 d D 100 hD2 hd (by omega) (by omega)
/-- how rich some of them are after m bars -/
def rsF (n : Nat) (vo ra ki se go no : Nat → Nat) (he m T : Nat) : Nat := rich T (itr n T vo ra ki se go no he m)
theorem c_some {M : Mem} {n m T : Nat} {vo ra ki se go no : Nat → Nat} {he ba : Nat} (hN : Now M n vo ra ki se go no he ba) (hT : T < 2 ^ n) (hm : m ≤ 60) : ∃ M', f_X1_richnessOfSome (nI T) (nI m) M = some (nI (rsF n vo ra ki se go no he m T), M') ∧ Alk (fun a _ => a = 1) M M' := by
  obtain ⟨oR, hcR, hmR, ok, hcS, hmS, hTh⟩ := id hN
  have hn := oR.1
  obtain ⟨M1, e1, A1, S1⟩ := c_copy (o := 1) (o1 := 0) (by decide) hcS hn
  have A2 : Alk (fun a b => a = 1 ∧ b = 0) M1 (sw M1 1 0 5 (nI T)) := Alk.sw ⟨rfl, rfl⟩
  have o2 : ∀ j, j ≠ 5 → (sw M1 1 0 5 (nI T)).1 1 0 j = M1.1 1 0 j := fun j hj => by rw [sw_same, upd_ne hj]
  have S2 : cS (sw M1 1 0 5 (nI T)) 1 n T se go no he ba := ⟨fun i hi => by rw [A2.1 1 1 (by omega)]; exact S1.1 i hi, fun i hi => by rw [A2.1 1 2 (by omega)]; exact S1.2.1 i hi, fun i hi => by rw [A2.1 1 3 (by omega)]; exact S1.2.2.1 i hi, by rw [sw_same, upd_same], by rw [o2 6 (by omega)]; exact S1.2.2.2.2.1, by rw [o2 7 (by omega)]; exact S1.2.2.2.2.2⟩
  have ok2 : okS n T se go no he := ⟨hT, ok.2.1, ok.2.2⟩
  obtain ⟨M3, e3, A3, S3⟩ := c_goOn (m := m) (cR_alk (cR_alk hcR A1 (fun b e => by omega)) A2 (fun b e => by omega)) oR S2 ok2 (by decide) hm
  refine ⟨M3, ?_, ((A1.wk (fun a b e => e.1)).tr (A2.wk (fun a b e => e.1))).tr (A3.wk (fun a b e => e.1))⟩
  unfold f_X1_richnessOfSome
  rw [e1]
  simp only [Option.bind_some, lt_]
  rw [e3]
  simp only [Option.bind_some]
  rw [c_richness S3 (okS_itr oR ok2 m) hn]
  rfl
theorem m_some {M : Mem} {n m T : Nat} {vo ra ki se go no : Nat → Nat} {he ba : Nat} (hN : Now M n vo ra ki se go no he ba) (hT : T < 2 ^ n) (hm : m ≤ 60) : ∃ M', f_X10_notesOf (nI T) (nI m) M = some (nI (rsF n vo ra ki se go no he m T), M') ∧ QM M M' := by
  obtain ⟨oR, hcR, hmR, ok, hcS, hmS, hTh⟩ := id hN
  have hn := oR.1
  have ht : T < 64 := Nat.lt_of_lt_of_le hT (two6 hn)
  have A1 : Alk (fun a b => a = 27 ∧ b = 0) M (sw M 27 0 12 (nI T)) := Alk.sw ⟨rfl, rfl⟩
  have o1 : ∀ j, j ≠ 12 → (sw M 27 0 12 (nI T)).1 27 0 j = M.1 27 0 j := fun j hj => by rw [sw_same, upd_ne hj]
  have S1 : mS (sw M 27 0 12 (nI T)) 0 n se go no he ba := mS_alk hmS A1 (by omega)
  have R1 : mR (sw M 27 0 12 (nI T)) n vo ra ki := ⟨fun i hi => by rw [A1.1 27 1 (by omega)]; exact hmR.1 i hi, fun i hi => by rw [A1.1 27 2 (by omega)]; exact hmR.2.1 i hi, fun i hi => by rw [A1.1 27 3 (by omega)]; exact hmR.2.2.1 i hi, by rw [o1 0 (by omega)]; exact hmR.2.2.2⟩
  have T1 : mT (sw M 27 0 12 (nI T)) T := by unfold mT; rw [sw_same, upd_same]
  obtain ⟨M2, e2, A2, S2, o2⟩ := m_lay hn S1
  have R2 := mR_alk R1 A2 (fun b _ e => by omega)
  have T2 := mT_alk T1 A2 (by omega)
  obtain ⟨M3, e3, A3, S3, o3⟩ := m_goOn (m := m) R2 oR S2 T2 ht (okS_B ok) hm
  have R3 := mR_alk R2 A3 (fun b _ e => by omega)
  have T3 := mT_alk T2 A3 (by omega)
  have hno : ∀ i, i < n → itA n T vo ra ki se go no he m i < 10 := fun i hi => ((okB_itA oR (okS_B ok) m).1 i hi).2.2
  have er : rich T (itA n T vo ra ki se go no he m) = rsF n vo ra ki se go no he m T := rich_congr (fun i hb => itA_itr m i (tb_lt hT hb) hb)
  refine ⟨sw M3 27 0 12 63, ?_, fun a b q => ?_, fun k hk => ?_, fun k hk => ?_, ?_⟩
  · unfold f_X10_notesOf
    rw [lt_, e2]
    simp only [Option.bind_some]
    rw [e3]
    simp only [Option.bind_some]
    have := m_rich R3 hn S3 T3 hT hno (by decide)
    rw [show (1 : Int32) = nI 1 from rfl]
    rcases hq : f_X10_notesOn (nI 1) M3 with _ | q
    · rw [hq] at this; cases this
    · rw [hq] at this
      simp only [Option.bind_some] at this ⊢
      rw [this, er]
      rfl
  · rw [sw_ne (by omega), A3.1 a b (by omega), A2.1 a b (by omega), A1.1 a b (by omega)]
  · rw [sw_ne (by omega), o3 k hk, o2 k hk, A1.1 27 4 (by omega)]
  · rw [sw_same]
    by_cases e : k = 12
    · rw [e, upd_same, hTh]; rfl
    · rw [upd_ne e, A3.1 27 0 (by omega), A2.1 27 0 (by omega), o1 k e]
  · show M3.2 = M.2
    rw [A3.2, A2.2, A1.2]
theorem c_every {M : Mem} {n : Nat} (h : M.1 19 0 3 = nI n) (hn : n ≤ 6) : f_X4_everybody M = some (nI (2 ^ n - 1)) := by
  unfold f_X4_everybody
  rw [h, shl1 (by omega), show nI (2 ^ n) - 1 = nI (2 ^ n - 1) from pk_sub (b := 1) (Nat.two_pow_pos n)]
