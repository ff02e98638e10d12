def al_ (a m : Nat) (q q' : Nat → Nat) (o i : Nat) : Nat := if o = 0 then q (6 + i) else if o = 1 then q (11 + i) else if o < 16 then q (18 + 5 * (o - 2) + i) else if o < 18 then q (90 + 5 * (o - 16) + i) else if o = 18 then q i else if o = 19 then q (2 + i) else if o = 20 then a else if o = 21 then q (16 + i) else if o = 22 then q (88 + i) else if o = 23 then q (100 + i) else if o = 24 then q (104 + i) else if o = 25 then q (106 + i) else if o = 26 then q 110 else if i = 0 then m else q' (i - 1)
abbrev gOf (c : CT) (ft a m : Nat) (q q' : Nat → Nat) : GT := (c.1, al_ a m q q', c.2.1, c.2.2.1, c.2.2.2.1, ft)
theorem arrV_congr {cA : ClassId} {n : Nat} {f f' : Nat → Value} (h : ∀ j, j < n → f j = f' j) : arrV cA n f = arrV cA n f' := by
  unfold arrV
  congr 2
  funext j
  exact h j.val j.isLt
theorem ring_at {D : va_G} {cl : List vw_C} {H : Heap} {a n : Nat} {cA : ClassId} {f f' : Nat → Option Nat} (h : va_at D cl (a, .inl (cA, n, .inr (.inr (.inr (.inr f))))) H) (hf : ∀ j, j < n → f j = f' j) : va_at D cl (a, .inl (cA, n, .inr (.inr (.inr (.inr f'))))) H := by
  have h1 : H[a]? = some (vp_cell cA (n, .inr (.inr (.inr (.inr f))))) := h
  show H[a]? = some (vp_cell cA (n, .inr (.inr (.inr (.inr f')))))
  rw [h1, vp_cell_q, vp_cell_q, arrV_congr (f' := fun j => va_rf (f' j)) (fun j hj => by rw [hf j hj])]
def wls : List Nat := [7, 8, 9, 10, 11, 12, 13, 14, 15, 16, 19, 20, 21, 22, 23, 24, 25, 26, 27, 28, 29, 30, 31, 32, 33, 34, 35, 36, 37, 38, 39, 40, 41, 42, 43, 44, 45, 46, 47, 48, 49, 50, 51, 52, 53, 54, 55, 56, 57, 58, 59, 60, 61, 62, 63, 64, 65, 66, 67, 68, 69, 70, 71, 72, 73, 74, 75, 76, 77, 78, 79, 80, 81, 82, 83, 84, 85, 86, 87, 88, 91, 92, 93, 94, 95, 96, 97, 98, 99, 100, 1, 2, 3, 4, 5, 6, 0, 17, 18, 89, 90, 101, 102, 103, 104, 105, 106, 107, 108, 109, 110, 111, 112, 113, 114, 115, 116, 117, 118, 119, 120, 121, 122, 123, 124, 125, 126]
def wfin (c : CT) (ft a m : Nat) (q q' : Nat → Nat) : va_W := ((G_X9 c a q ++ G_X10 c m q').set 18 (q 17, .inl (c.2.2.2.1, 14, .inr (.inr (.inr (.inr (fun k => some (ga (gOf c ft a m q q') (2 + k) 0)))))))).set 90 (q 89, .inl (c.2.2.2.1, 2, .inr (.inr (.inr (.inr (fun k => some (ga (gOf c ft a m q q') (16 + k) 0)))))))
set_option maxHeartbeats 4000000 in
set_option maxRecDepth 100000 in
theorem wfin_map (c : CT) (ft a m : Nat) (q q' : Nat → Nat) : wls.map (fun i => (wfin c ft a m q q')[i]?) = (wl (gOf c ft a m q q') M0).map some := rfl
theorem va_P_map {D : va_G} {cl : List vw_C} {ws ws' : va_W} {H : Heap} (h : va_P D cl ws H) (is : List Nat) (hs : is.map (fun i => ws[i]?) = ws'.map some) : va_P D cl ws' H := by
  intro k x hx
  have h1 : (is.map (fun i => ws[i]?))[k]? = some (some x) := by rw [hs, List.getElem?_map, hx]; rfl
  rw [List.getElem?_map] at h1
  cases hi : is[k]? with
  | none => rw [hi] at h1; cases h1
  | some i => rw [hi] at h1; exact h i x (Option.some.inj h1)
set_option maxHeartbeats 4000000 in
set_option maxRecDepth 100000 in
theorem wfin_P {c : CT} {ft a m : Nat} {q q' : Nat → Nat} {A : Nat → Prop} {H : Heap} (hP : va_P c.1 vwCl (G_X9 c a q ++ G_X10 c m q') H) (hD : va_D A (G_X9 c a q ++ G_X10 c m q')) : va_P c.1 vwCl (wl (gOf c ft a m q q') M0) H ∧ va_D A (wl (gOf c ft a m q q') M0) := by
  have p1 : (G_X9 c a q ++ G_X10 c m q')[18]? = some (q 17, .inl (c.2.2.2.1, 14, .inr (.inr (.inr (.inr (va_up (va_up (va_up (va_up (va_up (va_up (va_up (va_up (va_up (va_up (va_up (va_up (va_up (va_up (fun _ => none) 0 (some (q 18))) 1 (some (q 23))) 2 (some (q 28))) 3 (some (q 33))) 4 (some (q 38))) 5 (some (q 43))) 6 (some (q 48))) 7 (some (q 53))) 8 (some (q 58))) 9 (some (q 63))) 10 (some (q 68))) 11 (some (q 73))) 12 (some (q 78))) 13 (some (q 83)))))))) := rfl
  have hP1 := hP.set (e := .inl (c.2.2.2.1, 14, .inr (.inr (.inr (.inr (fun k => some (ga (gOf c ft a m q q') (2 + k) 0))))))) hD p1 (ring_at (hP 18 _ p1) (fun j hj => by
    match j, hj with
    | 0, _ => rfl
    | 1, _ => rfl
    | 2, _ => rfl
    | 3, _ => rfl
    | 4, _ => rfl
    | 5, _ => rfl
    | 6, _ => rfl
    | 7, _ => rfl
    | 8, _ => rfl
    | 9, _ => rfl
    | 10, _ => rfl
    | 11, _ => rfl
    | 12, _ => rfl
    | 13, _ => rfl
    | j + 14, hj => omega)) (fun _ _ => rfl)
  have hD1 := hD.set (e := .inl (c.2.2.2.1, 14, .inr (.inr (.inr (.inr (fun k => some (ga (gOf c ft a m q q') (2 + k) 0))))))) p1
  have p2 : ((G_X9 c a q ++ G_X10 c m q').set 18 (q 17, .inl (c.2.2.2.1, 14, .inr (.inr (.inr (.inr (fun k => some (ga (gOf c ft a m q q') (2 + k) 0))))))))[90]? = some (q 89, .inl (c.2.2.2.1, 2, .inr (.inr (.inr (.inr (va_up (va_up (fun _ => none) 0 (some (q 90))) 1 (some (q 95)))))))) := rfl
  have hP2 := hP1.set (e := .inl (c.2.2.2.1, 2, .inr (.inr (.inr (.inr (fun k => some (ga (gOf c ft a m q q') (16 + k) 0))))))) hD1 p2 (ring_at (hP1 90 _ p2) (fun j hj => by
    match j, hj with
    | 0, _ => rfl
    | 1, _ => rfl
    | j + 2, hj => omega)) (fun _ _ => rfl)
  have hD2 := hD1.set (e := .inl (c.2.2.2.1, 2, .inr (.inr (.inr (.inr (fun k => some (ga (gOf c ft a m q q') (16 + k) 0))))))) p2
  exact ⟨va_P_map hP2 wls (wfin_map c ft a m q q'), hD2.sub wls (by decide +kernel) (wfin_map c ft a m q q')⟩
theorem gInj_of {g : GT} {M : Mem} {A : Nat → Prop} (hD : va_D A (wl g M)) : gInj g ∧ ∀ x, gA g x → A x := by
  constructor
  · intro q hq r hr e
    obtain ⟨i, hi, ei⟩ := wl_get (g := g) (M := M) (o := q.1) (i := q.2) hq
    obtain ⟨j, hj, ej⟩ := wl_get (g := g) (M := M) (o := r.1) (i := r.2) hr
    have := hD.1 i j _ _ ei ej e
    subst this
    exact Option.some.inj (hi.symm.trans hj)
  · rintro x ⟨q, hq, rfl⟩
    obtain ⟨i, hi, ei⟩ := wl_get (g := g) (M := M) (o := q.1) (i := q.2) hq
    exact hD.2 i _ ei
theorem mlL_9 : Cond.methodLink RL 9 yX9_init ∈ gW := gw_mk (i := 100) (by decide +kernel) rfl
theorem mlL_12 : Cond.methodLink RL 12 yX10_init ∈ gW := gw_mk (i := 768) (by decide +kernel) rfl
section KCL
variable {c : CT} {X : XT} {cc : ByteArray} {own : String} {nL d pc n k : Nat} {lv : List (Option Value)} {st : List Value} {w0 r : va_W}
theorem kc_ast1 (C : Cy c X cc own nL d) {x y : Nat} {b0 : Option Value} {t : List (Option Value)} (hd : decode cc pc = .ok (.astore_n 1, 1)) (hn : 1 < nL) (kk : Kc c X nL (pc + 1) (some (.ref y) :: some (.ref x) :: t) st w0 r n k) : Kc c X nL pc (some (.ref y) :: b0 :: t) (.ref x :: st) w0 r n k := fun H locs ls hP hD hS hl => lv_astore_n C.1 C.2.1 hd rfl hl.has hn rfl (fun ls2 hl2 => kk H locs ls2 hP hD hS (hl.st1 hl2 (by
  intro j hj w hw
  obtain rfl : j = 0 := by (have : j + 1 = 1 := hj); omega
  simp at hw; rw [← hw]; rfl)))
theorem kc_ast2 (C : Cy c X cc own nL d) {x y : Nat} {a0 b0 : Option Value} {t : List (Option Value)} (hd : decode cc pc = .ok (.astore_n 2, 1)) (hn : 2 < nL) (kk : Kc c X nL (pc + 1) (a0 :: some (.ref y) :: some (.ref x) :: t) st w0 r n k) : Kc c X nL pc (a0 :: some (.ref y) :: b0 :: t) (.ref x :: st) w0 r n k := fun H locs ls hP hD hS hl => lv_astore_n C.1 C.2.1 hd rfl hl.has hn rfl (fun ls2 hl2 => kk H locs ls2 hP hD hS (hl.st1 hl2 (by
  intro j hj w hw
  obtain rfl : j = 1 := by (have : j + 1 = 2 := hj); omega
  simp at hw; rw [← hw]; rfl)))
theorem kc_ist3 (C : Cy c X cc own nL d) {x : Int32} {y : Nat} {a0 a1 b0 : Option Value} {t : List (Option Value)} (hd : decode cc pc = .ok (.istore_n 3, 1)) (hn : 3 < nL) (kk : Kc c X nL (pc + 1) (a0 :: a1 :: some (.ref y) :: some (.int x) :: t) st w0 r n k) : Kc c X nL pc (a0 :: a1 :: some (.ref y) :: b0 :: t) (.int x :: st) w0 r n k := fun H locs ls hP hD hS hl => lv_istore_n C.1 C.2.1 hd rfl hl.has hn rfl (fun ls2 hl2 => kk H locs ls2 hP hD hS (hl.st1 hl2 (by
  intro j hj w hw
  obtain rfl : j = 2 := by (have : j + 1 = 3 := hj); omega
  simp at hw; rw [← hw]; rfl)))
end KCL
set_option maxHeartbeats 4000000 in
set_option maxRecDepth 100000 in
/-- the law from its entry -/
theorem whole_start {p : Program} {e : Env} {s : State} {m : MethodId} {below : List Frame} {meth : Method} {cd : Code} (l : Launch) {b L : Nat} {xs : Nat → Int32} (hL : L ≤ 320) (C0 : lw_At p s m meth cd b L xs) : W p l e room_1 s m #[Value.ref b] below meth cd s.heap [] 0 0 (lw_Z below #[Value.ref b] s) (entryFrame m ([Value.ref b] : List Value).toArray 4) := by
  obtain ⟨hx, hb, hr, hml, hown, hts, hX, hbl, hlocks, hgv⟩ := id C0
  have hgw : ∀ w ∈ gW, w.before #[Value.ref b] s = true := fun w h => hts w (gW_in h)
  have hnw : ∀ w ∈ nW, va_Nw w s := fun w h => by
    have h1 := hts w (List.mem_filter.mp h).1
    have h2 := (List.mem_filter.mp h).2
    cases w <;> first | exact va_Nw.of rfl h1 | cases h2
  obtain ⟨c0, iS0, hKn0⟩ := u_known (C := RX0) (T := TX0) (N := 3) (n := 3) hgw ing_X0 (hgw _ it_X0)
  obtain ⟨c1, iS1, hKn1⟩ := u_known (C := RX1) (T := TX1) (N := 6) (n := 6) hgw ing_X1 (hgw _ it_X1)
  obtain ⟨c2, iS2, hKn2⟩ := u_known (C := RX2) (T := TX2) (N := 4) (n := 4) hgw ing_X2 (hgw _ it_X2)
  obtain ⟨c3, iS3, hKn3⟩ := u_known (C := RX3) (T := TX3) (N := 4) (n := 4) hgw ing_X3 (hgw _ it_X3)
  obtain ⟨c4, iS4, hKn4⟩ := u_known (C := RX4) (T := TX4) (N := 4) (n := 4) hgw ing_X4 (hgw _ it_X4)
  obtain ⟨c5, iS5, hKn5⟩ := u_known (C := RX5) (T := TX5) (N := 2) (n := 2) hgw ing_X5 (hgw _ it_X5)
  obtain ⟨c6, iS6, hKn6⟩ := u_known (C := RX6) (T := TX6) (N := 2) (n := 2) hgw ing_X6 (hgw _ it_X6)
  obtain ⟨c7, iS7, hKn7⟩ := u_known (C := RX7) (T := TX7) (N := 8) (n := 8) hgw ing_X7 (hgw _ it_X7)
  obtain ⟨c8, iS8, hKn8⟩ := u_known (C := RX8) (T := TX8) (N := 3) (n := 3) hgw ing_X8 (hgw _ it_X8)
  obtain ⟨c9, iS9, hKn9⟩ := u_known (C := RX9) (T := TX9) (N := 10) (n := 10) hgw ing_X9 (hgw _ it_X9)
  obtain ⟨c10, iS10, hKn10⟩ := u_known (C := RX10) (T := TX10) (N := 25) (n := 25) hgw ing_X10 (hgw _ it_X10)
  obtain ⟨dC, dI, hKc⟩ : ∃ (dC : Nat → ClassId) (dI : Nat → Nat → Nat), ∀ (k : Nat) (q : vw_C), vwCl[k]? = some q → u_Kn s q.1 q.2.1 q.2.2 (dC k) (dI k) := by
    refine ⟨fun k => if k = 0 then c0 else if k = 1 then c1 else if k = 2 then c2 else if k = 3 then c3 else if k = 4 then c4 else if k = 5 then c5 else if k = 6 then c6 else if k = 7 then c7 else if k = 8 then c8 else if k = 9 then c9 else c10, fun k => if k = 0 then iS0 else if k = 1 then iS1 else if k = 2 then iS2 else if k = 3 then iS3 else if k = 4 then iS4 else if k = 5 then iS5 else if k = 6 then iS6 else if k = 7 then iS7 else if k = 8 then iS8 else if k = 9 then iS9 else iS10, ?_⟩
    intro k q hq
    match k, hq with
    | 0, hq => cases hq; exact hKn0
    | 1, hq => cases hq; exact hKn1
    | 2, hq => cases hq; exact hKn2
    | 3, hq => cases hq; exact hKn3
    | 4, hq => cases hq; exact hKn4
    | 5, hq => cases hq; exact hKn5
    | 6, hq => cases hq; exact hKn6
    | 7, hq => cases hq; exact hKn7
    | 8, hq => cases hq; exact hKn8
    | 9, hq => cases hq; exact hKn9
    | 10, hq => cases hq; exact hKn10
    | k + 11, hq => cases hq
  obtain ⟨cI, kI, compI, fI, gI, eI⟩ := Cond.arrayClass_spec (hgw _ ac_I)
  obtain ⟨cZ, kZ, compZ, fZ, gZ, eZ⟩ := Cond.arrayClass_spec (hgw _ ac_Z)
  have hao : va_AO "JealousChoir$Stand" s := va_AO.of (hts _ (List.mem_of_getElem? (i := 206) (by decide +kernel)))
  obtain ⟨compS, cS, kS, f1, -, f3, f4, f5⟩ := Cond.arrayOver_spec hao
  have hK : va_K (dC, dI) vwCl [(cI, .int), (cZ, .boolean), (cS, .object "JealousChoir$Stand")] s := by
    refine ⟨hKc, fun k q hq => ?_⟩
    match k, hq with
    | 0, hq => cases hq; exact ⟨fun n z => ⟨(fun k h => by cases h), kI, gI, compI, eI⟩, fI⟩
    | 1, hq => cases hq; exact ⟨fun n z => ⟨(fun k h => by cases h), kZ, gZ, compZ, eZ⟩, fZ⟩
    | 2, hq => cases hq; exact ⟨fun n z => ⟨(fun k h => by cases h), kS, f3, compS, f4⟩, kS, compS, f3, f4, f1, f5⟩
    | k + 3, hq => cases hq
  obtain ⟨c, hc⟩ : ∃ c' : CT, c' = ((dC, dI), cI, cZ, cS, s.heap.size) := ⟨_, rfl⟩
  have hSk : Sk c s := by rw [hc]; exact ⟨hK, hnw, hao⟩
  have hcb : c.2.2.2.2 = s.heap.size := by rw [hc]
  have hs := flat_of_before _ hgv
  obtain ⟨ft, hft, hT⟩ := va_Tof (N := 7) (f := fun j => .int (facs j)) (A := cAd c) (s := s) (args := #[Value.ref b]) (tm := .static "JealousChoir$Chances" "FACTORIALS" "[I") (ty := .int) (by decide) (hs _ (by decide +kernel)) (va_eqt (hs _ (by decide +kernel))) (fun j hj => by
    match j, hj with
    | 0, _ => exact va_eqt (hs _ (by decide +kernel))
    | 1, _ => exact va_eqt (hs _ (by decide +kernel))
    | 2, _ => exact va_eqt (hs _ (by decide +kernel))
    | 3, _ => exact va_eqt (hs _ (by decide +kernel))
    | 4, _ => exact va_eqt (hs _ (by decide +kernel))
    | 5, _ => exact va_eqt (hs _ (by decide +kernel))
    | 6, _ => exact va_eqt (hs _ (by decide +kernel))
    | j + 7, hj => omega) (fun a ha h => by have h : c.2.2.2.2 ≤ a := h; omega)
  have hZ : va_Z "JealousChoir$Chances" "FACTORIALS" "[I" (.ref ft) (cAd c) s s.heap := va_Zof (args := #[Value.ref b]) (hts _ (List.mem_of_getElem? (i := 662) (by decide +kernel))) (hts _ (List.mem_of_getElem? (i := 92) (by decide +kernel))) hft (fun a ha h => by have h : c.2.2.2.2 ≤ a := h; omega)
  have hl := lv_entry ([.ref b]) (n := 4) (Nat.le_of_ble_eq_true rfl)
  rw [lg_entry_eq]
  obtain ⟨X, hXe⟩ : ∃ X : XT, X = (p, l, e, room_1, s, m, #[Value.ref b], below, meth, cd, 0, 0, lw_Z below #[Value.ref b] s) := ⟨_, rfl⟩
  have C : Cy c X cL_law RL 4 11 := by
    subst hXe
    exact ⟨hx, hb, hml, hown, hgw, hSk, hlocks, Nat.le_of_ble_eq_true rfl, Nat.le_of_ble_eq_true rfl, Nat.le_of_eq hcb⟩
  have hRm : xR X = room_1 := by rw [hXe]
  have hend : ∀ (a q0 : Nat) (q q' : Nat → Nat), Kc c X 4 18 [some (.ref b), some (.ref a), some (.ref q0), some (.int 0)] [] [] (([] ++ G_X9 c a q) ++ G_X10 c q0 q') 127 1479 := by
    intro a q0 q q' H locs ls hP hD hS hl
    have hP : va_P c.1 vwCl (G_X9 c a q ++ G_X10 c q0 q') H := hP
    have hD : va_D (cAd c) (G_X9 c a q ++ G_X10 c q0 q') := hD
    obtain ⟨hP2, hD2⟩ := wfin_P (ft := ft) hP hD
    obtain ⟨hI, hgA⟩ := gInj_of hD2
    have hge : ∀ x, gA (gOf c ft a q0 q q') x → s.heap.size ≤ x := fun x h => by have h1 : c.2.2.2.2 ≤ x := hgA x h; omega
    have hWk : Wk (gOf c ft a q0 q q') s := ⟨by rw [hc] at hSk ⊢; exact hSk.1, hnw, hI, hZ.narrow hgA, hT.narrow hgA⟩
    obtain ⟨t, h, ht⟩ := law_pure xs L hL
    subst hXe
    refine va_forget (fun l hl => by have h1 : c.2.2.2.2 ≤ l.base := hS.2.2 l hl; show s.heap.size ≤ _; omega) ?_
    have K := k_L_law_18 (g := gOf c ft a q0 q q') (X := (p, l, e, room_1, s, m, #[Value.ref b], below, meth, cd, 127, 1479, lw_Z below #[Value.ref b] s)) (sx := xs) (L := L) (b := b) (t := t)
      ⟨hx, hb, hml, hown, hgw, hWk, hlocks, Nat.le_of_ble_eq_true rfl, Nat.le_of_ble_eq_true rfl, Nat.le_of_ble_eq_true rfl, Nat.le_of_ble_eq_true rfl⟩ hr ⟨rfl, rfl, rfl, Nat.le_of_ble_eq_true rfl, Nat.le_of_ble_eq_true rfl⟩ hX hbl (fun h => by have := hge b h; omega) hge ht 100 0 M0 h
    exact K H [] ls hP2 ⟨hS.1, fun x h1 h2 => hS.2.1 x h1 (fun h3 => by have h3 : c.2.2.2.2 ≤ x := h3; have h1 : x < s.heap.size := h1; omega), fun _ h => by cases h⟩ hl
  have K0 : Kc c X 4 0 [some (.ref b), none, none, none] [] [] [] 0 0 := by
    refine kc_new (pc := 0) C (ci := 9) (fs := [.null, .null, .null, .null, .null, .null, .null, .null, .null, .null]) ing_X9 tyX9_ok cl_L_7 it_X9 iz_X9 rfl df_X9 (by rw [hRm]; exact Nat.le_of_ble_eq_true rfl) (by rw [hRm]; exact Nat.le_of_ble_eq_true rfl) dL_law_0 (fun a => ?_)
    refine kc_dup (pc := 3) C dL_law_3 rfl ?_
    refine kc_init (pc := 4) C (r0 := []) (cc_X9 _ a) (Nat.le_of_ble_eq_true rfl) mc_X9 mlL_9 rfl ar0 (Nat.le_of_ble_eq_true rfl) rfl (by rw [hRm]; exact Nat.le_of_ble_eq_true rfl) (by rw [hRm]; exact Nat.le_of_ble_eq_true rfl) dL_law_4 (fun q => ?_)
    refine kc_ast1 (pc := 7) C dL_law_7 (Nat.le_of_ble_eq_true rfl) ?_
    refine kc_new (pc := 8) C (ci := 10) (fs := [.int 0, .null, .null, .null, .null, .null, .int 0, .int 0, .null, .int 0, .int 0, .int 0, .int 0, .null, .int 0, .int 0, .null, .null, .int 0, .null, .null, .null, .long 0, .null, .null]) ing_X10 tyX10_ok cl_L_10 it_X10 iz_X10 rfl df_X10 (by rw [hRm]; exact Nat.le_of_ble_eq_true rfl) (by rw [hRm]; exact Nat.le_of_ble_eq_true rfl) dL_law_8 (fun q0 => ?_)
    refine kc_dup (pc := 11) C dL_law_11 rfl ?_
    refine kc_init (pc := 12) C (r0 := [] ++ G_X9 c a q) (cc_X10 _ q0) (Nat.le_of_ble_eq_true rfl) mc_X10 mlL_12 rfl ar0 (Nat.le_of_ble_eq_true rfl) rfl (by rw [hRm]; exact Nat.le_of_ble_eq_true rfl) (by rw [hRm]; exact Nat.le_of_ble_eq_true rfl) dL_law_12 (fun q' => ?_)
    refine kc_ast2 (pc := 15) C dL_law_15 (Nat.le_of_ble_eq_true rfl) ?_
    refine kc_iconst (pc := 16) C (v := 0) dL_law_16 (by decide) ?_
    refine kc_ist3 (pc := 17) C dL_law_17 (Nat.le_of_ble_eq_true rfl) ?_
    exact hend a q0 q q'
  subst hXe
  exact K0 s.heap [] _ (fun k q h => by simp at h) ⟨fun i j p q h => by simp at h, fun k q h => by simp at h⟩ va_S.rf (lh_entry (k := 3) hl rfl)
