/-! a choir told -/
def fv (tx : Nat → Nat) (k i : Nat) : Nat := tx (6 * i + 2 + k) - 48
theorem vF_fv {tx : Nat → Nat} {i k : Nat} (hk : k < 5) : vF tx (5 * i + k) = fv tx k i := by
  unfold vF fv
  rw [show (5 * i + k) / 5 = i by omega, show (5 * i + k) % 5 = k by omega]
theorem fv_ok {tx : Nat → Nat} {len b i : Nat} (hB : Brk tx len b) (hi : 6 * i + 6 < b) : (48 ≤ tx (6 * i + 2) ∧ fv tx 0 i < 8) ∧ (48 ≤ tx (6 * i + 2 + 1) ∧ fv tx 1 i < 10) ∧ (48 ≤ tx (6 * i + 2 + 2) ∧ fv tx 2 i < 10) ∧ (48 ≤ tx (6 * i + 2 + 3) ∧ fv tx 3 i < 10) ∧ (48 ≤ tx (6 * i + 2 + 4) ∧ fv tx 4 i < 4) := by
  have b37 := Brk_37 hB
  have h0 := hB.2.1 (6 * i + 2) (by omega)
  have h1 := hB.2.1 (6 * i + 2 + 1) (by omega)
  have h2 := hB.2.1 (6 * i + 2 + 2) (by omega)
  have h3 := hB.2.1 (6 * i + 2 + 3) (by omega)
  have h4 := hB.2.1 (6 * i + 2 + 4) (by omega)
  rw [st_1 (by omega)] at h0
  rw [st_k (by omega) (by omega) (by omega)] at h1 h2 h3
  rw [st_4 (by omega)] at h4
  simp at h0 h1 h2 h3 h4
  unfold fv
  rw [Nat.add_zero]
  omega
theorem c_tell {M : Mem} {tx : Nat → Nat} {len n : Nat} (hT : TxtX M len tx) (hB : Brk tx len len) (hn : len = 6 * n + 1) : ∃ M', f_X5_tellTo 0 M = some M' ∧ Alk (fun a b => (a = 0 ∧ b < 4) ∨ a = 19) M M' ∧ cR M' n (fv tx 1) (fv tx 2) (fv tx 4) ∧ cS M' 0 n (2 ^ n - 1) (fv tx 0) (fv tx 3) (fv tx 1) 0 0 := by
  have b37 := Brk_37 hB
  have n6 : n ≤ 6 := by omega
  obtain ⟨t1, t2, -, t4⟩ := hT
  have s0 : ∀ (M : Mem) (k j : Nat) (x : Int32), (sw M 0 k j x).1 18 1 = M.1 18 1 := fun M k j x => sw_ne (by omega)
  have s19 : ∀ (M : Mem) (k j : Nat) (x : Int32), (sw M 19 k j x).1 18 1 = M.1 18 1 := fun M k j x => sw_ne (by omega)
  have loop : ∃ M1, f_X5_tellTo 0 M = f_X5_tellTo_138 0 M1 ∧ Alk (fun a b => (a = 0 ∧ b < 4) ∨ a = 19) M M1 ∧ M1.1 19 0 3 = nI n ∧ ∀ j, j < n → M1.1 0 1 j = nI (fv tx 0 j) ∧ M1.1 19 1 j = nI (fv tx 1 j) ∧ M1.1 19 2 j = nI (fv tx 2 j) ∧ M1.1 0 2 j = nI (fv tx 3 j) ∧ M1.1 19 3 j = nI (fv tx 4 j) := by
    have top : f_X5_tellTo 0 M = f_X5_tellTo_20 0 100 0 (sw M 19 0 3 (nI n)) := by
      unfold f_X5_tellTo
      rw [lt_, lt_, lt_, t2, show nI len - 1 = nI (len - 1) from pk_sub (b := 1) (by omega), show nI (len - 1) / 6 = nI ((len - 1) / 6) from pk_div (d := 6) (by omega) (by decide) (by decide), show (len - 1) / 6 = n by omega, if_neg (show ¬ (6 : Int32) < nI n from fun q => absurd ((nI_ltI (a := 6) (by decide) (by omega)).mp q) (by omega))]
    rw [top]
    refine loopE (fun f i (M1 : Mem) => f_X5_tellTo_20 0 f (nI i) M1) n (fun i M1 => Alk (fun a b => (a = 0 ∧ b < 4) ∨ a = 19) M M1 ∧ M1.1 19 0 3 = nI n ∧ ∀ j, j < i → M1.1 0 1 j = nI (fv tx 0 j) ∧ M1.1 19 1 j = nI (fv tx 1 j) ∧ M1.1 19 2 j = nI (fv tx 2 j) ∧ M1.1 0 2 j = nI (fv tx 3 j) ∧ M1.1 19 3 j = nI (fv tx 4 j)) (fun r => ∃ M1, r = f_X5_tellTo_138 0 M1 ∧ Alk (fun a b => (a = 0 ∧ b < 4) ∨ a = 19) M M1 ∧ M1.1 19 0 3 = nI n ∧ ∀ j, j < n → M1.1 0 1 j = nI (fv tx 0 j) ∧ M1.1 19 1 j = nI (fv tx 1 j) ∧ M1.1 19 2 j = nI (fv tx 2 j) ∧ M1.1 0 2 j = nI (fv tx 3 j) ∧ M1.1 19 3 j = nI (fv tx 4 j)) ?_ ?_ n 0 (by omega) 100 _ (by omega) ⟨Alk.sw (Or.inr rfl), by rw [sw_same, upd_same], fun j hj => absurd hj (by omega)⟩
    · rintro f i M1 hi ⟨A1, h3, h1⟩
      left
      obtain ⟨⟨f0, -⟩, ⟨f1, -⟩, ⟨f2, -⟩, ⟨f3, -⟩, ⟨f4, -⟩⟩ := fv_ok (i := i) hB (by omega)
      have val : ∀ k, k < 5 → 48 ≤ tx (6 * i + 2 + k) → M1.1 18 1 (6 * i + 2 + k) - 48 = nI (fv tx k i) := fun k hk h48 => by
        rw [A1.1 18 1 (by omega), (t4 (6 * i + 2 + k) (by omega)).2.1]
        exact pk_sub (b := 48) h48
      have y1 : (1 : Int32) + nI i * 6 = nI (6 * i + 1) := by rw [show nI i * (6 : Int32) = nI (i * 6) from pk_mul i 6, show (1 : Int32) + nI (i * 6) = nI (1 + i * 6) from nI_add 1 _, show 1 + i * 6 = 6 * i + 1 by omega]
      have z : ∀ k : Nat, nI (6 * i + 1) + nI (k + 1) = nI (6 * i + 2 + k) := fun k => by rw [nI_add, show 6 * i + 1 + (k + 1) = 6 * i + 2 + k by omega]
      have z1 : nI (6 * i + 1) + 1 = nI (6 * i + 2) := z 0
      have z2 : nI (6 * i + 1) + 2 = nI (6 * i + 2 + 1) := z 1
      have z3 : nI (6 * i + 1) + 3 = nI (6 * i + 2 + 2) := z 2
      have z4 : nI (6 * i + 1) + 4 = nI (6 * i + 2 + 3) := z 3
      have z5 : nI (6 * i + 1) + 5 = nI (6 * i + 2 + 4) := z 4
      refine ⟨sw (sw (sw (sw (sw M1 0 1 i (nI (fv tx 0 i))) 19 1 i (nI (fv tx 1 i))) 19 2 i (nI (fv tx 2 i))) 0 2 i (nI (fv tx 3 i))) 19 3 i (nI (fv tx 4 i)), ?_, ((((A1.tr (Alk.sw (by omega))).tr (Alk.sw (by omega))).tr (Alk.sw (by omega))).tr (Alk.sw (by omega))).tr (Alk.sw (by omega)), ?_, fun j hj => ?_⟩
      · show f_X5_tellTo_20 0 (f + 1) (nI i) M1 = _
        rw [f_X5_tellTo_20, h3, if_neg (nI_ge hi (by omega)), if_neg (n6i (show i < 6 by omega))]
        rw [lt_, y1, lt_, z1, if_gd (show 6 * i + 2 < 48 by omega) (by decide), if_gd (show i < 6 by omega) (by decide), lt_, lt_, z2, if_gd (show 6 * i + 2 + 1 < 48 by omega) (by decide), if_gd (show i < 6 by omega) (by decide), lt_, lt_, z3, if_gd (show 6 * i + 2 + 2 < 48 by omega) (by decide), if_gd (show i < 6 by omega) (by decide), lt_, lt_, z4, if_gd (show 6 * i + 2 + 3 < 48 by omega) (by decide), if_gd (show i < 6 by omega) (by decide), lt_, lt_, z5, if_gd (show 6 * i + 2 + 4 < 48 by omega) (by decide), if_gd (show i < 6 by omega) (by decide), lt_, lt_, nI_add1]
        rw [tn_nI (show i < 2 ^ 31 by omega), tn_nI (show 6 * i + 2 < 2 ^ 31 by omega), tn_nI (show 6 * i + 2 + 1 < 2 ^ 31 by omega), tn_nI (show 6 * i + 2 + 2 < 2 ^ 31 by omega), tn_nI (show 6 * i + 2 + 3 < 2 ^ 31 by omega), tn_nI (show 6 * i + 2 + 4 < 2 ^ 31 by omega)]
        simp only [s0, s19]
        rw [show M1.1 18 1 (6 * i + 2) - 48 = nI (fv tx 0 i) from val 0 (by omega) f0, val 1 (by omega) f1, val 2 (by omega) f2, val 3 (by omega) f3, val 4 (by omega) f4]
      · rw [sw_ne (by omega), sw_ne (by omega), sw_ne (by omega), sw_ne (by omega), sw_ne (by omega)]; exact h3
      · refine ⟨?_, ?_, ?_, ?_, ?_⟩
        · rw [sw_ne (by omega), sw_ne (by omega), sw_ne (by omega), sw_ne (by omega), sw_same]
          by_cases e : j = i
          · rw [e, upd_same]
          · rw [upd_ne e]; exact (h1 j (by omega)).1
        · rw [sw_ne (by omega), sw_ne (by omega), sw_ne (by omega), sw_same, sw_ne (by omega)]
          by_cases e : j = i
          · rw [e, upd_same]
          · rw [upd_ne e]; exact (h1 j (by omega)).2.1
        · rw [sw_ne (by omega), sw_ne (by omega), sw_same, sw_ne (by omega), sw_ne (by omega)]
          by_cases e : j = i
          · rw [e, upd_same]
          · rw [upd_ne e]; exact (h1 j (by omega)).2.2.1
        · rw [sw_ne (by omega), sw_same, sw_ne (by omega), sw_ne (by omega), sw_ne (by omega)]
          by_cases e : j = i
          · rw [e, upd_same]
          · rw [upd_ne e]; exact (h1 j (by omega)).2.2.2.1
        · rw [sw_same, sw_ne (by omega), sw_ne (by omega), sw_ne (by omega), sw_ne (by omega)]
          by_cases e : j = i
          · rw [e, upd_same]
          · rw [upd_ne e]; exact (h1 j (by omega)).2.2.2.2
    · rintro f M1 ⟨A1, h3, h1⟩
      refine ⟨M1, ?_, A1, h3, h1⟩
      show f_X5_tellTo_20 0 (f + 1) (nI n) M1 = _
      rw [f_X5_tellTo_20, h3, if_pos (nI_le (Nat.le_refl n) (by omega))]
  obtain ⟨M1, e1, A1, h3, h1⟩ := loop
  obtain ⟨M2, hM2⟩ : ∃ M2, M2 = sw (sw (sw M1 0 0 5 (nI (2 ^ n - 1))) 0 0 6 0) 0 0 7 0 := ⟨_, rfl⟩
  have A2 : Alk (fun a b => a = 0 ∧ b = 0) M1 M2 := by
    rw [hM2]
    exact ((Alk.sw ⟨rfl, rfl⟩).tr (Alk.sw ⟨rfl, rfl⟩)).tr (Alk.sw ⟨rfl, rfl⟩)
  have R2 : cR M2 n (fv tx 1) (fv tx 2) (fv tx 4) := ⟨fun i hi => by rw [A2.1 19 1 (by omega)]; exact (h1 i hi).2.1, fun i hi => by rw [A2.1 19 2 (by omega)]; exact (h1 i hi).2.2.1, fun i hi => by rw [A2.1 19 3 (by omega)]; exact (h1 i hi).2.2.2.2, by rw [A2.1 19 0 (by omega)]; exact h3⟩
  refine ⟨sr M2 0 3 (va_cpy (M2.1 19 1) (M2.1 0 3) 0 0 6), ?_, (A1.tr (A2.wk (fun a b e => by omega))).tr (Alk.sr (by omega)), ?_, ?_⟩
  · rw [e1]
    unfold f_X5_tellTo_138 f_X7_takeVoices
    rw [c_every h3 n6]
    simp only [Option.bind_some]
    rw [lt_, lt_, lt_, ← hM2, lt_]
    rfl
  · exact cR_alk R2 (Alk.sr (P := fun a b => a = 0 ∧ b = 3) ⟨rfl, rfl⟩) (fun b e => by omega)
  · refine ⟨fun i hi => ?_, fun i hi => ?_, fun i hi => ?_, ?_, ?_, ?_⟩
    · rw [sr_ne (by omega), A2.1 0 1 (by omega)]; exact (h1 i hi).1
    · rw [sr_ne (by omega), A2.1 0 2 (by omega)]; exact (h1 i hi).2.2.2.1
    · rw [sr_same, va_cpy6 (by omega)]; exact R2.1 i hi
    · rw [sr_ne (by omega), hM2, sw_same, upd_ne (by omega), sw_same, upd_ne (by omega), sw_same, upd_same]
    · rw [sr_ne (by omega), hM2, sw_same, upd_ne (by omega), sw_same, upd_same]; rfl
    · rw [sr_ne (by omega), hM2, sw_same, upd_same]; rfl
