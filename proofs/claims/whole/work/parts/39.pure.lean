def M0 : Mem := (fun o i k => if o = 27 ∧ i = 0 ∧ k = 12 then 63 else 0, fun _ => 0)
theorem law_pure (sx : Nat → Int32) (L : Nat) (hL : L ≤ 320) : ∃ t : Int32 × Mem, f_L_law_18 sx L 100 0 M0 = some t ∧ t.1 = 1 := sorry
