/-! the making of the world: rows over lists of cells at addresses that are variables -/
abbrev CT : Type := va_G × ClassId × ClassId × ClassId × Nat
abbrev ctys (c : CT) : List (ClassId × FieldType) := [(c.2.1, .int), (c.2.2.1, .boolean), (c.2.2.2.1, .object "JealousChoir$Stand")]
def Sk (c : CT) (U : State) : Prop := va_K c.1 vwCl (ctys c) U ∧ (∀ w ∈ nW, va_Nw w U) ∧ va_AO "JealousChoir$Stand" U
abbrev cAd (c : CT) : Nat → Prop := fun q => c.2.2.2.2 ≤ q
def Kc (c : CT) (X : XT) (nL pc : Nat) (lv : List (Option Value)) (st : List Value) (w0 r : va_W) (n k : Nat) : Prop :=
  ∀ (H : Heap) (locs : List Loc) (ls : Array Slot), va_P c.1 vwCl (w0 ++ r) H → va_D (cAd c) (w0 ++ r) → va_S (cAd c) (xs X).heap H locs → lh ls nL lv → W (xp X) (xl X) (xe X) (xR X) (xs X) (xm X) (xa X) (xb X) (xt X) (xc X) H locs n k (xQ X) (F0 (xm X) pc ls st)
def Cy (c : CT) (X : XT) (cc : ByteArray) (own : String) (nL d : Nat) : Prop :=
  (xp X).tables.exec = Jvm.exec ∧ (xc X).code = cc ∧ (xc X).maxLocals = nL ∧ (xs X).vm.findClass own = some (xm X).cls ∧ (∀ w ∈ gW, w.before (xa X) (xs X) = true) ∧ Sk c (xs X) ∧ (xt X).locks = false ∧ d ≤ (xR X).frames ∧ 41 * d ≤ (xR X).locals ∧ c.2.2.2.2 ≤ (xs X).heap.size
def Wc (c : CT) (ws : va_W) (U : State) : Prop := va_P c.1 vwCl ws U.heap ∧ va_D (cAd c) ws ∧ c.2.2.2.2 ≤ U.heap.size ∧ Sk c U
def Qc_ (c : CT) (F : (Nat → Nat) → va_W) : Array Value → State → Outcome → State → Prop := fun _ st oc t => (∃ q : Nat → Nat, oc = .returned none ∧ va_P c.1 vwCl (F q) t.heap ∧ va_D (cAd c) (F q)) ∧ va_F (cAd c) st t
def rmC (d mc ms : Nat) : Room := { frames := d, cells := mc, slots := ms, locals := 41 * d }
def Cc (c : CT) (l : Launch) (d : Nat) (y : MethodName) (cc : ByteArray) (maxL : Nat) (as : List Value) (mc ms : Nat) (ws : va_W) (F : (Nat → Nat) → va_W) : Prop :=
  Met l y (.code y cc maxL none :: gW) (rmC d mc ms) (va_Pc as (Wc c ws)) (Qc_ c F) mc ms (cAd c)
theorem Sk.warm {c : CT} {s U : State} (h : Sk c s) (hW : s.WarmedH U.vm) : Sk c U := ⟨va_K.moved hW.alike h.1, nW_warm hW h.2.1, h.2.2.moved hW.alike⟩
theorem Wc.blind {c : CT} {ws : va_W} {as : List Value} : FrameBlind (va_Pc as (Wc c ws)) := by
  intro a U G mk q
  obtain ⟨q0, qP, qD, qz, q1, q2, q3⟩ := q
  exact ⟨q0, qP, qD, qz, va_K.moved (u := U) (U := U.calling G mk a) (Vm.Alike.refl U.vm) q1, nW_same (s := U) (U := U.calling G mk a) rfl q2, va_AO.moved (u := U) (U := U.calling G mk a) (Vm.Alike.refl U.vm) q3⟩
theorem ap_get {α : Type} {a r : List α} {k : Nat} : (a ++ r)[a.length + k]? = r[k]? := by
  rw [List.getElem?_append_right (by omega)]
  congr 1
  omega
theorem ap_set {α : Type} {a r : List α} {k : Nat} {v : α} : (a ++ r).set (a.length + k) v = a ++ r.set k v := by
  rw [List.set_append_right _ _ (by omega)]
  congr 2
  omega
section KC
variable {c : CT} {X : XT} {cc : ByteArray} {own : String} {nL d pc n k : Nat} {lv : List (Option Value)} {st : List Value} {w0 r : va_W}
theorem kc_ald0 (C : Cy c X cc own nL d) {x : Nat} {t : List (Option Value)} (hd : decode cc pc = .ok (.aload_n 0, 1)) (kk : Kc c X nL (pc + 1) (some (.ref x) :: t) (.ref x :: st) w0 r n k) : Kc c X nL pc (some (.ref x) :: t) st w0 r n k := fun H locs ls hP hD hS hl => lv_aload_n C.1 C.2.1 hd rfl (hl.2.2 0 _ rfl) (kk H locs ls hP hD hS hl)
theorem kc_ald1 (C : Cy c X cc own nL d) {x : Nat} {a0 : Option Value} {t : List (Option Value)} (hd : decode cc pc = .ok (.aload_n 1, 1)) (kk : Kc c X nL (pc + 1) (a0 :: some (.ref x) :: t) (.ref x :: st) w0 r n k) : Kc c X nL pc (a0 :: some (.ref x) :: t) st w0 r n k := fun H locs ls hP hD hS hl => lv_aload_n C.1 C.2.1 hd rfl (hl.2.2 1 _ rfl) (kk H locs ls hP hD hS hl)
theorem kc_ald2 (C : Cy c X cc own nL d) {x : Nat} {a0 a1 : Option Value} {t : List (Option Value)} (hd : decode cc pc = .ok (.aload_n 2, 1)) (kk : Kc c X nL (pc + 1) (a0 :: a1 :: some (.ref x) :: t) (.ref x :: st) w0 r n k) : Kc c X nL pc (a0 :: a1 :: some (.ref x) :: t) st w0 r n k := fun H locs ls hP hD hS hl => lv_aload_n C.1 C.2.1 hd rfl (hl.2.2 2 _ rfl) (kk H locs ls hP hD hS hl)
theorem kc_ald3 (C : Cy c X cc own nL d) {x : Nat} {a0 a1 a2 : Option Value} {t : List (Option Value)} (hd : decode cc pc = .ok (.aload_n 3, 1)) (kk : Kc c X nL (pc + 1) (a0 :: a1 :: a2 :: some (.ref x) :: t) (.ref x :: st) w0 r n k) : Kc c X nL pc (a0 :: a1 :: a2 :: some (.ref x) :: t) st w0 r n k := fun H locs ls hP hD hS hl => lv_aload_n C.1 C.2.1 hd rfl (hl.2.2 3 _ rfl) (kk H locs ls hP hD hS hl)
theorem kc_ild2 (C : Cy c X cc own nL d) {x : Int32} {a0 a1 : Option Value} {t : List (Option Value)} (hd : decode cc pc = .ok (.iload_n 2, 1)) (kk : Kc c X nL (pc + 1) (a0 :: a1 :: some (.int x) :: t) (.int x :: st) w0 r n k) : Kc c X nL pc (a0 :: a1 :: some (.int x) :: t) st w0 r n k := fun H locs ls hP hD hS hl => lv_iload_n C.1 C.2.1 hd rfl (hl.2.2 2 _ rfl) (kk H locs ls hP hD hS hl)
theorem kc_ist2 (C : Cy c X cc own nL d) {x : Int32} {a0 : Option Value} {y : Nat} {b0 : Option Value} {t : List (Option Value)} (hd : decode cc pc = .ok (.istore_n 2, 1)) (hn : 2 < nL) (kk : Kc c X nL (pc + 1) (a0 :: some (.ref y) :: some (.int x) :: t) st w0 r n k) : Kc c X nL pc (a0 :: some (.ref y) :: b0 :: t) (.int x :: st) w0 r n k := fun H locs ls hP hD hS hl => lv_istore_n C.1 C.2.1 hd rfl hl.has hn rfl (fun ls2 hl2 => kk H locs ls2 hP hD hS (hl.st1 hl2 (by
  intro j hj w hw
  obtain rfl : j = 1 := by (have : j + 1 = 2 := hj); omega
  simp at hw; rw [← hw]; rfl)))
theorem kc_iinc2 (C : Cy c X cc own nL d) {x v : Int32} {i : Int} {a0 : Option Value} {y : Nat} {t : List (Option Value)} (hd : decode cc pc = .ok (.iinc 2 i, 3)) (hn : 2 < nL) (hv : x + Int32.ofInt i = v) (kk : Kc c X nL (pc + 3) (a0 :: some (.ref y) :: some (.int v) :: t) st w0 r n k) : Kc c X nL pc (a0 :: some (.ref y) :: some (.int x) :: t) st w0 r n k := fun H locs ls hP hD hS hl => by
  obtain ⟨j, hj⟩ := List.getElem?_of_mem ((ll_mem (nL := nL) (lv := a0 :: some (.ref y) :: some (.int x) :: t) (q := (2, Value.int x))).mpr ⟨hn, rfl⟩)
  exact lv_iinc C.1 C.2.1 hd hl.has hj hv hn rfl (fun ls2 hl2 => kk H locs ls2 hP hD hS (hl.st1 hl2 (by
    intro j hj w hw
    obtain rfl : j = 1 := by omega
    simp at hw; rw [← hw]; rfl)))
theorem kc_iconst (C : Cy c X cc own nL d) {i : Int} {v : Int32} (hd : decode cc pc = .ok (.iconst i, 1)) (hv : Int32.ofInt i = v) (kk : Kc c X nL (pc + 1) lv (.int v :: st) w0 r n k) : Kc c X nL pc lv st w0 r n k := fun H locs ls hP hD hS hl => lv_iconst C.1 C.2.1 hd hv (kk H locs ls hP hD hS hl)
theorem kc_bipush (C : Cy c X cc own nL d) {i : Int} {v : Int32} (hd : decode cc pc = .ok (.bipush i, 2)) (hv : (Int8.ofInt i).toInt32 = v) (kk : Kc c X nL (pc + 2) lv (.int v :: st) w0 r n k) : Kc c X nL pc lv st w0 r n k := fun H locs ls hP hD hS hl => lv_bipush C.1 C.2.1 hd hv (kk H locs ls hP hD hS hl)
theorem kc_sipush (C : Cy c X cc own nL d) {i : Int} {v : Int32} (hd : decode cc pc = .ok (.sipush i, 3)) (hv : (Int16.ofInt i).toInt32 = v) (kk : Kc c X nL (pc + 3) lv (.int v :: st) w0 r n k) : Kc c X nL pc lv st w0 r n k := fun H locs ls hP hD hS hl => lv_sipush C.1 C.2.1 hd hv (kk H locs ls hP hD hS hl)
theorem kc_lconst (C : Cy c X cc own nL d) {i : Fin 2} {v : Int64} (hd : decode cc pc = .ok (.lconst i, 1)) (hv : Int64.ofNat (i : Nat) = v) (kk : Kc c X nL (pc + 1) lv (.long v :: st) w0 r n k) : Kc c X nL pc lv st w0 r n k := fun H locs ls hP hD hS hl => lv_lconst C.1 C.2.1 hd hv (kk H locs ls hP hD hS hl)
theorem kc_dup (C : Cy c X cc own nL d) {va : Value} (hd : decode cc pc = .ok (.dup, 1)) (hva : va.category = 1) (kk : Kc c X nL (pc + 1) lv (va :: va :: st) w0 r n k) : Kc c X nL pc lv (va :: st) w0 r n k := fun H locs ls hP hD hS hl => lv_dup C.1 C.2.1 hd hva (kk H locs ls hP hD hS hl)
theorem kc_goto (C : Cy c X cc own nL d) {off : Int} {tgt : Nat} (hd : decode cc pc = .ok (.goto off, 3)) (ht : (pc : Int) + off = (tgt : Int)) (kk : Kc c X nL tgt lv st w0 r n k) : Kc c X nL pc lv st w0 r n k := fun H locs ls hP hD hS hl => lv_goto C.1 C.2.1 hd ht (kk H locs ls hP hD hS hl)
theorem kc_icmp_geT (C : Cy c X cc own nL d) {x y : Int32} {off : Int} {tgt : Nat} (hd : decode cc pc = .ok (.if_icmp .ge off, 3)) (ht : (pc : Int) + off = (tgt : Int)) (h : y ≤ x) (kt : Kc c X nL tgt lv st w0 r n k) : Kc c X nL pc lv (.int y :: .int x :: st) w0 r n k := fun H locs ls hP hD hS hl => lv_icmp_ge C.1 C.2.1 hd ht (fun _ => kt H locs ls hP hD hS hl) (fun q => absurd h q)
theorem kc_icmp_geF (C : Cy c X cc own nL d) {x y : Int32} {off : Int} {tgt : Nat} (hd : decode cc pc = .ok (.if_icmp .ge off, 3)) (ht : (pc : Int) + off = (tgt : Int)) (h : ¬ y ≤ x) (kf : Kc c X nL (pc + 3) lv st w0 r n k) : Kc c X nL pc lv (.int y :: .int x :: st) w0 r n k := fun H locs ls hP hD hS hl => lv_icmp_ge C.1 C.2.1 hd ht (fun q => absurd q h) (fun _ => kf H locs ls hP hD hS hl)
theorem kc_obj (C : Cy c X cc own nL (d + 1)) {x idx : Nat} (hlk : Cond.methodLink own idx objectInit ∈ gW) (h1 : Cond.instanceMethod objectInit ∈ gW) (h2 : Cond.code objectInit ⟨#[0xb1]⟩ 1 none ∈ gW) (hd : decode cc pc = .ok (.invokespecial idx, 3)) (kk : Kc c X nL (pc + 3) lv [] w0 r n k) : Kc c X nL pc lv [.ref x] w0 r n k := fun H locs ls hP hD hS hl => by
  obtain ⟨c1, c2, c3, c4, c5, c6, c7, c8, c9, c10⟩ := C
  exact W.objInit c1 c2 c4 (c5 _ hlk) (c5 _ h1) (c5 _ h2) rfl (hl.1.trans c3.symm) rfl hd (by omega) (by show 2 * 0 + 0 + 12 ≤ _; omega) (kk H locs ls hP hD hS hl)
theorem kc_new (C : Cy c X cc own nL d) {ci index N : Nat} {Cn : String} {T : u_T} {ty : Nat → FieldType} {fs : List Value} (hin : ∀ w ∈ u_ws Cn T N, w ∈ gW) (hty : ∀ k, k < N → parseFieldDescriptor (T k).2.2.1 = some (ty k)) (hcl : Cond.classLink own index Cn ∈ gW) (h1 : Cond.instantiable Cn N ∈ gW) (h2 : Cond.initialized Cn ∈ gW) (hc : vwCl[ci]? = some (Cn, T, N)) (hfs : ∀ j, j < N → defaultValue (ty j) = vp_V fs j) (hcells : n + 1 ≤ (xR X).cells) (hslots : k + N ≤ (xR X).slots) (hd : decode cc pc = .ok (.new index, 3)) (kk : ∀ q : Nat, Kc c X nL (pc + 3) lv (.ref q :: st) w0 (r ++ [(q, .inr (ci, fs))]) (n + 1) (k + N)) : Kc c X nL pc lv st w0 r n k := fun H locs ls hP hD hS hl => by
  obtain ⟨c1, c2, c3, c4, c5, c6, c7, c8, c9, c10⟩ := C
  refine va_new c1 c2 c5 hin ty hty c4 (c5 _ hcl) (c5 _ h1) (c5 _ h2) c6.1 hP hD hS (fun q h => Nat.le_trans c10 h) hc hfs hcells hslots hd (fun q H1 hP1 hD1 hS1 => ?_)
  rw [List.append_assoc] at hP1 hD1
  exact kk q H1 locs ls hP1 hD1 hS1 hl
theorem kc_newI (C : Cy c X cc own nL d) {v : Int32} {N : Nat} (h1 : Cond.arrayClass .int ∈ gW) (hv : ¬ v < 0) (hN : v.toNatClampNeg = N) (hb : N * 4 ≤ 536870912) (hcells : n + 1 ≤ (xR X).cells) (hslots : k + N ≤ (xR X).slots) (hd : decode cc pc = .ok (.newarray .int, 2)) (kk : ∀ q : Nat, Kc c X nL (pc + 2) lv (.ref q :: st) w0 (r ++ [(q, .inl (c.2.1, N, .inl (fun _ => 0)))]) (n + 1) (k + N)) : Kc c X nL pc lv (.int v :: st) w0 r n k := fun H locs ls hP hD hS hl => by
  obtain ⟨c1, c2, c3, c4, c5, c6, c7, c8, c9, c10⟩ := C
  refine va_newa (atype := .int) c1 c2 (c5 _ h1) (ty := .int) rfl c6.1 hP hD hS (fun q h => Nat.le_trans c10 h) (a0 := (N, .inl (fun _ => 0))) (fun cA => rfl) hv hN hb hcells hslots hd (fun q cA H1 hK1 hP1 hD1 hS1 => ?_)
  have e1 : (xs X).vm.findClass ("[" ++ FieldType.int.toString) = some cA := (hK1.2 3 (cA, .int) rfl).2
  have e2 : (xs X).vm.findClass ("[" ++ FieldType.int.toString) = some c.2.1 := (hK1.2 0 (c.2.1, .int) rfl).2
  cases e1.symm.trans e2
  rw [List.append_assoc] at hP1 hD1
  exact kk q H1 locs ls hP1 hD1 hS1 hl
theorem kc_newZ (C : Cy c X cc own nL d) {v : Int32} {N : Nat} (h1 : Cond.arrayClass .boolean ∈ gW) (hv : ¬ v < 0) (hN : v.toNatClampNeg = N) (hb : N * componentBytes .boolean ≤ 536870912) (hcells : n + 1 ≤ (xR X).cells) (hslots : k + N ≤ (xR X).slots) (hd : decode cc pc = .ok (.newarray .boolean, 2)) (kk : ∀ q : Nat, Kc c X nL (pc + 2) lv (.ref q :: st) w0 (r ++ [(q, .inl (c.2.2.1, N, .inl (fun _ => 0)))]) (n + 1) (k + N)) : Kc c X nL pc lv (.int v :: st) w0 r n k := fun H locs ls hP hD hS hl => by
  obtain ⟨c1, c2, c3, c4, c5, c6, c7, c8, c9, c10⟩ := C
  refine va_newa (atype := .boolean) c1 c2 (c5 _ h1) (ty := .boolean) rfl c6.1 hP hD hS (fun q h => Nat.le_trans c10 h) (a0 := (N, .inl (fun _ => 0))) (fun cA => rfl) hv hN hb hcells hslots hd (fun q cA H1 hK1 hP1 hD1 hS1 => ?_)
  have e1 : (xs X).vm.findClass ("[" ++ FieldType.boolean.toString) = some cA := (hK1.2 3 (cA, .boolean) rfl).2
  have e2 : (xs X).vm.findClass ("[" ++ FieldType.boolean.toString) = some c.2.2.1 := (hK1.2 1 (c.2.2.1, .boolean) rfl).2
  cases e1.symm.trans e2
  rw [List.append_assoc] at hP1 hD1
  exact kk q H1 locs ls hP1 hD1 hS1 hl
theorem kc_newS (C : Cy c X cc own nL d) {v : Int32} {N index : Nat} (hcl : Cond.classLink own index "JealousChoir$Stand" ∈ gW) (hv : ¬ v < 0) (hN : v.toNatClampNeg = N) (hb : N * 4 ≤ 536870912) (hcells : n + 1 ≤ (xR X).cells) (hslots : k + N ≤ (xR X).slots) (hd : decode cc pc = .ok (.anewarray index, 3)) (kk : ∀ q : Nat, Kc c X nL (pc + 3) lv (.ref q :: st) w0 (r ++ [(q, .inl (c.2.2.2.1, N, .inr (.inr (.inr (.inr (fun _ => none))))))]) (n + 1) (k + N)) : Kc c X nL pc lv (.int v :: st) w0 r n k := fun H locs ls hP hD hS hl => by
  obtain ⟨c1, c2, c3, c4, c5, c6, c7, c8, c9, c10⟩ := C
  refine va_newq c1 c2 c4 (c5 _ hcl) c6.2.2 c6.1 hP hD hS (fun q h => Nat.le_trans c10 h) hv hN hb hcells hslots hd (fun q cA H1 hK1 hP1 hD1 hS1 => ?_)
  obtain ⟨-, -, -, -, -, e1⟩ := (hK1.2 3 (cA, .object "JealousChoir$Stand") rfl).2
  obtain ⟨-, -, -, -, -, e2⟩ := (hK1.2 2 (c.2.2.2.1, .object "JealousChoir$Stand") rfl).2
  cases e1.symm.trans e2
  rw [List.append_assoc] at hP1 hD1
  exact kk q H1 locs ls hP1 hD1 hS1 hl
theorem kc_putF (C : Cy c X cc own nL d) {ci index j p : Nat} {a : Nat} {q : vw_C} {fs : List Value} {ref : String} {v : Value} {ty : FieldType} {ty0 : Nat → FieldType} (hm : (xt X).name = "<init>") (hr : r[p]? = some (a, .inr (ci, fs))) (hc : vwCl[ci]? = some q) (hin : ∀ w ∈ u_ws q.1 q.2.1 q.2.2, w ∈ gW) (hty : ∀ k, k < q.2.2 → parseFieldDescriptor (q.2.1 k).2.2.1 = some (ty0 k)) (hnm : ∀ a, a < q.2.2 → ∀ b, b < q.2.2 → a ≠ b → (q.2.1 a).2.1 ≠ (q.2.1 b).2.1) (hk : j < q.2.2) (hlink : Cond.fieldLink own index ref (q.2.1 j).2.1 (q.2.1 j).2.2.1 ∈ gW) (href : ref = (q.2.1 j).1) (hown : (q.2.1 j).1 = own) (hfin : (q.2.1 j).2.2.2 = true) (hd' : parseFieldDescriptor (q.2.1 j).2.2.1 = some ty) (hn : narrow ty v = v) (hfit : fits ty v = true) (hlen : j < fs.length) (hd : decode cc pc = .ok (.putfield index, 3)) (kk : Kc c X nL (pc + 3) lv st w0 (r.set p (a, .inr (ci, fs.set j v))) n k) : Kc c X nL pc lv (v :: .ref a :: st) w0 r n k := fun H locs ls hP hD hS hl => by
  obtain ⟨c1, c2, c3, c4, c5, c6, c7, c8, c9, c10⟩ := C
  subst href
  refine va_putF c1 c2 c5 hin ty0 hty hnm c4 c6.1 hP hD hS (w0.length + p) (ap_get.trans hr) hc j hk (c5 _ hlink) (fun _ h => h) hfin hm hown hd' hn hfit hlen hd (fun H1 locs1 hP1 hD1 hS1 => ?_)
  rw [ap_set] at hP1 hD1
  exact kk H1 locs1 ls hP1 hD1 hS1 hl
theorem kc_put (C : Cy c X cc own nL d) {ci index j p : Nat} {a : Nat} {q : vw_C} {fs : List Value} {ref : String} {v : Value} {ty : FieldType} {ty0 : Nat → FieldType} (hr : r[p]? = some (a, .inr (ci, fs))) (hc : vwCl[ci]? = some q) (hin : ∀ w ∈ u_ws q.1 q.2.1 q.2.2, w ∈ gW) (hty : ∀ k, k < q.2.2 → parseFieldDescriptor (q.2.1 k).2.2.1 = some (ty0 k)) (hnm : ∀ a, a < q.2.2 → ∀ b, b < q.2.2 → a ≠ b → (q.2.1 a).2.1 ≠ (q.2.1 b).2.1) (hk : j < q.2.2) (hlink : Cond.fieldLink own index ref (q.2.1 j).2.1 (q.2.1 j).2.2.1 ∈ gW) (href : ref = (q.2.1 j).1) (hfin : (q.2.1 j).2.2.2 = false) (hd' : parseFieldDescriptor (q.2.1 j).2.2.1 = some ty) (hn : narrow ty v = v) (hfit : fits ty v = true) (hlen : j < fs.length) (hd : decode cc pc = .ok (.putfield index, 3)) (kk : Kc c X nL (pc + 3) lv st w0 (r.set p (a, .inr (ci, fs.set j v))) n k) : Kc c X nL pc lv (v :: .ref a :: st) w0 r n k := fun H locs ls hP hD hS hl => by
  obtain ⟨c1, c2, c3, c4, c5, c6, c7, c8, c9, c10⟩ := C
  subst href
  refine va_put c1 c2 c5 hin ty0 hty hnm c4 c6.1 hP hD hS (w0.length + p) (ap_get.trans hr) hc j hk (c5 _ hlink) (fun _ h => h) hfin hd' hn hfit hlen hd (fun H1 locs1 hP1 hD1 hS1 => ?_)
  rw [ap_set] at hP1 hD1
  exact kk H1 locs1 ls hP1 hD1 hS1 hl
theorem kc_get (C : Cy c X cc own nL d) {ci index j p : Nat} {a : Nat} {q : vw_C} {fs : List Value} {ref : String} {v : Value} (hr : r[p]? = some (a, .inr (ci, fs))) (hc : vwCl[ci]? = some q) (hin : ∀ w ∈ u_ws q.1 q.2.1 q.2.2, w ∈ gW) (hk : j < q.2.2) (hlink : Cond.fieldLink own index ref (q.2.1 j).2.1 (q.2.1 j).2.2.1 ∈ gW) (href : ref = (q.2.1 j).1) (hv : fs[j]? = some v) (hd : decode cc pc = .ok (.getfield index, 3)) (kk : Kc c X nL (pc + 3) lv (v :: st) w0 r n k) : Kc c X nL pc lv (.ref a :: st) w0 r n k := fun H locs ls hP hD hS hl => by
  obtain ⟨c1, c2, c3, c4, c5, c6, c7, c8, c9, c10⟩ := C
  subst href
  exact va_get c1 c2 c5 hin c4 c6.1 hP (w0.length + p) (ap_get.trans hr) hc j hk (c5 _ hlink) (fun _ h => h) hv hd (kk H locs ls hP hD hS hl)
theorem kc_alenS (C : Cy c X cc own nL d) {p N a : Nat} {f : Nat → Option Nat} {v : Int32} (hr : r[p]? = some (a, .inl (c.2.2.2.1, N, .inr (.inr (.inr (.inr f)))))) (hv : Int32.ofNat N = v) (hd : decode cc pc = .ok (.arraylength, 1)) (kk : Kc c X nL (pc + 1) lv (.int v :: st) w0 r n k) : Kc c X nL pc lv (.ref a :: st) w0 r n k := fun H locs ls hP hD hS hl => by
  obtain ⟨c1, c2, c3, c4, c5, c6, c7, c8, c9, c10⟩ := C
  exact va_alen c1 c2 c6.1 hP (w0.length + p) 2 (ap_get.trans hr) rfl hv hd (kk H locs ls hP hD hS hl)
theorem kc_astS (C : Cy c X cc own nL d) {p p2 N a v : Nat} {f : Nat → Option Nat} {vs : List Value} {i : Int32} (hr : r[p]? = some (a, .inl (c.2.2.2.1, N, .inr (.inr (.inr (.inr f)))))) (hr2 : r[p2]? = some (v, .inr (7, vs))) (hin : vp_in i N) (hd : decode cc pc = .ok (.aastore, 1)) (kk : Kc c X nL (pc + 1) lv st w0 (r.set p (a, .inl (c.2.2.2.1, N, .inr (.inr (.inr (.inr (va_up f i.toNatClampNeg (some v)))))))) n k) : Kc c X nL pc lv (.ref v :: .int i :: .ref a :: st) w0 r n k := fun H locs ls hP hD hS hl => by
  obtain ⟨c1, c2, c3, c4, c5, c6, c7, c8, c9, c10⟩ := C
  refine va_astq c1 c2 c6.1 hP hD hS (w0.length + p) 2 (w0.length + p2) 7 (r := (RX7, TX7, 8)) (ap_get.trans hr) rfl (ap_get.trans hr2) rfl hin hd (fun H1 locs1 hP1 hD1 hS1 => ?_)
  rw [ap_set] at hP1 hD1
  exact kk H1 locs1 ls hP1 hD1 hS1 hl
theorem kc_vret (C : Cy c X cc own nL d) {F : (Nat → Nat) → va_W} (hr : (xt X).sig.returnType = none) (hQ : xQ X = MQ (xb X) (Qc_ c F) (xa X) (xs X) n k (cAd c)) (q : Nat → Nat) (hF : w0 ++ r = F q) (hd : decode cc pc = .ok (.return_, 1)) : Kc c X nL pc lv [] w0 r n k := fun H locs ls hP hD hS hl => by
  rw [hQ]
  rw [hF] at hP hD
  exact W.vret C.1 C.2.1 hr (fun t ht hW => ⟨⟨q, rfl, by rw [ht]; exact hP, hD⟩, hS.F ht⟩) hS.2.2 hd C.2.2.2.2.2.2.1
/-- a constructor's call; its object is the last cell -/
theorem kc_run {d' mc ms : Nat} {as : List Value} {r0 : va_W} {G : (Nat → Nat) → va_W} {rest : List Value} {H : Heap} {locs : List Loc} {ls : Array Slot} (_ : d' = d') (hS : va_S (cAd c) (xs X).heap H locs) (hl : lh ls nL lv)
    (hr : va_Run (xp X) (xl X) (xe X) (xR X) (xs X) (xm X) (xa X) (xb X) (xt X) (xc X) H locs n k mc ms (F0 (xm X) pc ls st) rest (Qc_ c (fun q => (w0 ++ r0) ++ G q) as.toArray) (cAd c)) (kk : ∀ q : Nat → Nat, Kc c X nL (pc + 3) lv rest w0 (r0 ++ G q) (n + mc) (k + ms)) : W (xp X) (xl X) (xe X) (xR X) (xs X) (xm X) (xa X) (xb X) (xt X) (xc X) H locs n k (xQ X) (F0 (xm X) pc ls st) := by
  intro T hT Y
  obtain ⟨v', st₀, t, T', L, h0, Y', hL, e1, e2, ⟨⟨q, hv, hPt, hDt⟩, hz, hk⟩, stp⟩ := hr T hT Y
  cases hv
  rw [h0] at hz hk
  rw [← e1] at hPt hz hk
  have hPt : va_P c.1 vwCl (w0 ++ r0 ++ G q) T'.heap := hPt
  have hDt : va_D (cAd c) (w0 ++ r0 ++ G q) := hDt
  rw [List.append_assoc] at hPt hDt
  obtain ⟨t2, a1, b1⟩ := kk q T'.heap (locs ++ L) ls hPt hDt ⟨Nat.le_trans hS.1 hz, fun q h1 h2 => by rw [hk q (Nat.lt_of_lt_of_le h1 hS.1) h2]; exact hS.2.1 q h1 h2, fun q hq => by
      rcases List.mem_append.mp hq with h | h
      · exact hS.2.2 q h
      · exact hL q h⟩ hl T' rfl Y'
  exact ⟨t2, stp t2 a1, b1⟩
/-- what is known of a called constructor -/
def Mc (y : MethodName) (cc : ByteArray) (maxL n : Nat) : Prop := Mi y cc maxL none n ∧ y.name = "<init>" ∧ Cond.instanceMethod y ∈ gW
theorem kc_pre (C : Cy c X cc own nL d) {as : List Value} {ws : va_W} {H : Heap} {locs : List Loc} (hP : va_P c.1 vwCl ws H) (hD : va_D (cAd c) ws) (hS : va_S (cAd c) (xs X).heap H locs) : PreS (xs X) H (va_Pc as (Wc c ws)) as := ⟨Wc.blind, fun U hU hW => ⟨rfl, by rw [hU]; exact hP, hD, by rw [hU]; exact Nat.le_trans C.2.2.2.2.2.2.2.2.2 hS.1, C.2.2.2.2.2.1.warm hW⟩⟩
theorem kc_initN (C : Cy c X cc own nL (d + 1)) {d' index mxL m mc ms a : Nat} {y : MethodName} {host : String} {bytes : ByteArray} {As rest : List Value} {r0 : va_W} {e : va_E} {G : (Nat → Nat) → va_W} (hM : Cc c (xl X) d' y bytes mxL (.ref a :: As) mc ms ((w0 ++ r0) ++ [(a, e)]) (fun q => (w0 ++ r0) ++ G q)) (hdd : d' ≤ d) (mi : Mc y bytes mxL m) (hlk : Cond.methodLinkNest own index y host ∈ nW) (hn : As.length = m) (hst : st = As.reverse ++ .ref a :: rest) (hcat : (rest.map fun v => v.category).sum ≤ 8) (hr : r = r0 ++ [(a, e)]) (hc1 : n + mc ≤ (xR X).cells) (hc2 : k + ms ≤ (xR X).slots) (hd : decode cc pc = .ok (.invokespecial index, 3)) (kk : ∀ q : Nat → Nat, Kc c X nL (pc + 3) lv rest w0 (r0 ++ G q) (n + mc) (k + ms)) : Kc c X nL pc lv st w0 r n k := fun H locs ls hP hD hS hl => by
  obtain ⟨c1, c2, c3, c4, c5, c6, c7, c8, c9, c10⟩ := id C
  obtain ⟨⟨m1, m2, m3, m4⟩, m5, m6⟩ := mi
  rw [hr, ← List.append_assoc] at hP hD
  exact kc_run (as := .ref a :: As) (d' := d') rfl hS hl (va_runIN ⟨c1, c2, c3, c4, c5⟩ hM ⟨va_cnB m c5 (gW_GoodIn' m1) rfl rfl rfl (c6.2.1 _ hlk) (c5 _ m2) m3 ⟨by simp only [rmC]; omega, by simp only [rmC]; omega⟩, m5, c5 _ m6⟩ (kc_pre C hP hD hS) rfl hn hl.1 hst (lv_room hcat) hd ⟨hc1, hc2⟩) kk
theorem kc_init (C : Cy c X cc own nL (d + 1)) {d' index mxL m mc ms a : Nat} {y : MethodName} {bytes : ByteArray} {As rest : List Value} {r0 : va_W} {e : va_E} {G : (Nat → Nat) → va_W} (hM : Cc c (xl X) d' y bytes mxL (.ref a :: As) mc ms ((w0 ++ r0) ++ [(a, e)]) (fun q => (w0 ++ r0) ++ G q)) (hdd : d' ≤ d) (mi : Mc y bytes mxL m) (hlk : Cond.methodLink own index y ∈ gW) (hn : As.length = m) (hst : st = As.reverse ++ .ref a :: rest) (hcat : (rest.map fun v => v.category).sum ≤ 8) (hr : r = r0 ++ [(a, e)]) (hc1 : n + mc ≤ (xR X).cells) (hc2 : k + ms ≤ (xR X).slots) (hd : decode cc pc = .ok (.invokespecial index, 3)) (kk : ∀ q : Nat → Nat, Kc c X nL (pc + 3) lv rest w0 (r0 ++ G q) (n + mc) (k + ms)) : Kc c X nL pc lv st w0 r n k := fun H locs ls hP hD hS hl => by
  obtain ⟨c1, c2, c3, c4, c5, c6, c7, c8, c9, c10⟩ := id C
  obtain ⟨⟨m1, m2, m3, m4⟩, m5, m6⟩ := mi
  rw [hr, ← List.append_assoc] at hP hD
  exact kc_run (as := .ref a :: As) (d' := d') rfl hS hl (va_runI ⟨c1, c2, c3, c4, c5⟩ hM ⟨callB_of m c5 (gW_GoodIn' m1) rfl rfl rfl (c5 _ m2) (c5 _ hlk) m3 ⟨by simp only [rmC]; omega, by simp only [rmC]; omega⟩, m5, c5 _ m6⟩ (kc_pre C hP hD hS) rfl hn hl.1 hst (lv_room hcat) hd ⟨hc1, hc2⟩) kk
end KC
theorem cc_of {c : CT} {l : Launch} {d k maxL mc ms : Nat} {y : MethodName} {cc : ByteArray} {as : List Value} {lv : List (Option Value)} {ws : va_W} {F : (Nat → Nat) → va_W} (w0 r : va_W) (hy : plainName y.cls = true) (hlen : (lg_sl as).length ≤ maxL) (hlv : ea as ++ List.replicate k none = lv) (hws : ws = w0 ++ r)
    (h : ∀ X : XT, Cy c X cc y.cls maxL d → xl X = l → (xt X).sig.returnType = none → (xt X).name = y.name → xR X = rmC d mc ms → xQ X = MQ (xb X) (Qc_ c F) (xa X) (xs X) mc ms (cAd c) → Kc c X maxL 0 lv [] w0 r 0 0) : Cc c l d y cc maxL as mc ms ws F := by
  refine Met.ofW (cc := cc) (maxL := maxL) (ret := none) hy rfl ?_
  intro p e s m args below meth cd s₁ B hml hv
  obtain ⟨rfl, hP, hD, hz, hK⟩ := hv
  subst hws
  have hts := atoms_spec (ws := .code y cc maxL none :: gW) B.pre
  have hown : s.vm.findClass y.cls = some m.cls := findClass_of_methodNamed B.named
  have hnm : meth.name = y.name := (name_of_methodNamed B.named B.method).1
  have hl := lv_entry as (n := maxL) hlen
  rw [lg_entry_eq]
  exact h (p, l, e, rmC d mc ms, s, m, as.toArray, below, meth, cd, 0, 0, MQ below (Qc_ c F) as.toArray s mc ms (cAd c)) ⟨B.exec, B.bytes, hml, hown, fun w hw => hts w (List.mem_cons_of_mem _ hw), hK, B.notSynchronized, Nat.le_refl d, Nat.le_refl (41 * d), hz⟩ rfl B.returns hnm rfl rfl s.heap [] _ hP hD va_S.rf (lh_entry hl hlv)
