abbrev XT : Type := Program × Launch × Env × Room × State × MethodId × Array Value × List Frame × Method × Code × Nat × Nat × (State → Prop)
abbrev xp (X : XT) : Program := X.1
abbrev xl (X : XT) : Launch := X.2.1
abbrev xe (X : XT) : Env := X.2.2.1
abbrev xR (X : XT) : Room := X.2.2.2.1
abbrev xs (X : XT) : State := X.2.2.2.2.1
abbrev xm (X : XT) : MethodId := X.2.2.2.2.2.1
abbrev xa (X : XT) : Array Value := X.2.2.2.2.2.2.1
abbrev xb (X : XT) : List Frame := X.2.2.2.2.2.2.2.1
abbrev xt (X : XT) : Method := X.2.2.2.2.2.2.2.2.1
abbrev xc (X : XT) : Code := X.2.2.2.2.2.2.2.2.2.1
abbrev xk (X : XT) : Nat := X.2.2.2.2.2.2.2.2.2.2.1
abbrev xn (X : XT) : Nat := X.2.2.2.2.2.2.2.2.2.2.2.1
abbrev xQ (X : XT) : State → Prop := X.2.2.2.2.2.2.2.2.2.2.2.2
def Kj (g : GT) (X : XT) (nL pc : Nat) (lv : List (Option Value)) (st : List Value) (M : Mem) : Prop :=
  ∀ (H : Heap) (locs : List Loc) (ls : Array Slot), va_P g.1 vwCl (wl g M) H → va_S (gA g) (xs X).heap H locs → lh ls nL lv → W (xp X) (xl X) (xe X) (xR X) (xs X) (xm X) (xa X) (xb X) (xt X) (xc X) H locs (xk X) (xn X) (xQ X) (F0 (xm X) pc ls st)
def Cx (g : GT) (X : XT) (cc : ByteArray) (own : String) (nL d : Nat) : Prop :=
  (xp X).tables.exec = Jvm.exec ∧ (xc X).code = cc ∧ (xc X).maxLocals = nL ∧ (xs X).vm.findClass own = some (xm X).cls ∧ (∀ w ∈ gW, w.before (xa X) (xs X) = true) ∧ Wk g (xs X) ∧ (xt X).locks = false ∧ xk X ≤ (xR X).cells ∧ xn X ≤ (xR X).slots ∧ d ≤ (xR X).frames ∧ 41 * d ≤ (xR X).locals
def Qr (g : GT) (v : Option Value) (M : Mem) : Array Value → State → Outcome → State → Prop := fun _ st oc t => (oc = .returned v ∧ Wd g M t) ∧ va_F (gA g) st t
def Rt (g : GT) (X : XT) (v : Option Value) (M : Mem) : Prop := xQ X = MQ (xb X) (Qr g v M) (xa X) (xs X) (xk X) (xn X) (gA g)
def rmD (d : Nat) : Room := { frames := d, cells := 0, slots := 0, locals := 41 * d }
def Ct (g : GT) (l : Launch) (d : Nat) (y : MethodName) (cc : ByteArray) (maxL : Nat) (ret : Option FieldType) (as : List Value) (M : Mem) (v : Option Value) (M' : Mem) : Prop :=
  Met l y (.code y cc maxL ret :: gW) (rmD d) (va_Pc as (Wd g M)) (Qr g v M') 0 0 (gA g)
/-- what is known of a called method -/
def Mi (y : MethodName) (cc : ByteArray) (maxL : Nat) (ret : Option FieldType) (n : Nat) : Prop :=
  Cond.code y cc maxL ret ∈ gW ∧ Cond.initialized y.cls ∈ gW ∧ (y.cls ≠ "java/lang/invoke/MethodHandle" ∧ y.cls ≠ "java/lang/invoke/VarHandle" ∧ (parseMethodDescriptor y.desc).map (fun d => d.parameters.length) = some n) ∧ maxL ≤ 22
def Mv (y : MethodName) (cc : ByteArray) (maxL : Nat) (ret : Option FieldType) (n : Nat) : Prop := Mi y cc maxL ret n ∧ Cond.instanceMethod y ∈ gW ∧ Cond.selects y.cls y y ∈ gW
def Ms (y : MethodName) (cc : ByteArray) (maxL : Nat) (ret : Option FieldType) (n : Nat) : Prop := Mi y cc maxL ret n ∧ Cond.static y ∈ gW
section KJ
variable {g : GT} {X : XT} {cc : ByteArray} {own : String} {nL d pc : Nat} {lv : List (Option Value)} {st : List Value} {M : Mem}
theorem kj_lv {lv' : List (Option Value)} (hm : ∀ (i : Nat) (v : Value), lv'[i]? = some (some v) → lv[i]? = some (some v)) (kk : Kj g X nL pc lv' st M) : Kj g X nL pc lv st M := fun H locs ls hP hS hl => kk H locs ls hP hS (hl.mono hm)
theorem kj_ni {x e : Int32} (hx : x = e) (kk : Kj g X nL pc lv (.int x :: st) M) : Kj g X nL pc lv (.int e :: st) M := by subst hx; exact kk
theorem kj_nlg {x e : Int64} (hx : x = e) (kk : Kj g X nL pc lv (.long x :: st) M) : Kj g X nL pc lv (.long e :: st) M := by subst hx; exact kk
theorem kj_nM {M' : Mem} (hx : M' = M) (kk : Kj g X nL pc lv st M') : Kj g X nL pc lv st M := by subst hx; exact kk
theorem kj_pc {pc' : Nat} (hx : pc = pc') (kk : Kj g X nL pc' lv st M) : Kj g X nL pc lv st M := by subst hx; exact kk

theorem kj_iconst (C : Cx g X cc own nL d) {n : Int} {v : Int32} (hd : decode cc pc = .ok (.iconst n, 1)) (hv : Int32.ofInt n = v) (kk : Kj g X nL (pc + 1) lv (.int v :: st) M) : Kj g X nL pc lv (st) M := fun H locs ls hP hS hl => lv_iconst C.1 C.2.1 hd hv (kk H locs ls hP hS hl)
theorem kj_bipush (C : Cx g X cc own nL d) {n : Int} {v : Int32} (hd : decode cc pc = .ok (.bipush n, 2)) (hv : (Int8.ofInt n).toInt32 = v) (kk : Kj g X nL (pc + 2) lv (.int v :: st) M) : Kj g X nL pc lv (st) M := fun H locs ls hP hS hl => lv_bipush C.1 C.2.1 hd hv (kk H locs ls hP hS hl)
theorem kj_sipush (C : Cx g X cc own nL d) {n : Int} {v : Int32} (hd : decode cc pc = .ok (.sipush n, 3)) (hv : (Int16.ofInt n).toInt32 = v) (kk : Kj g X nL (pc + 3) lv (.int v :: st) M) : Kj g X nL pc lv (st) M := fun H locs ls hP hS hl => lv_sipush C.1 C.2.1 hd hv (kk H locs ls hP hS hl)
theorem kj_lconst (C : Cx g X cc own nL d) {n : Fin 2} {v : Int64} (hd : decode cc pc = .ok (.lconst n, 1)) (hv : Int64.ofNat (n : Nat) = v) (kk : Kj g X nL (pc + 1) lv (.long v :: st) M) : Kj g X nL pc lv (st) M := fun H locs ls hP hS hl => lv_lconst C.1 C.2.1 hd hv (kk H locs ls hP hS hl)
theorem kj_iadd (C : Cx g X cc own nL d) {x y : Int32} (hd : decode cc pc = .ok (.iadd, 1))  (kk : Kj g X nL (pc + 1) lv (.int (x + y) :: st) M) : Kj g X nL pc lv (.int y :: .int x :: st) M := fun H locs ls hP hS hl => lv_iadd C.1 C.2.1 hd  (kk H locs ls hP hS hl)
theorem kj_isub (C : Cx g X cc own nL d) {x y : Int32} (hd : decode cc pc = .ok (.isub, 1))  (kk : Kj g X nL (pc + 1) lv (.int (x - y) :: st) M) : Kj g X nL pc lv (.int y :: .int x :: st) M := fun H locs ls hP hS hl => lv_isub C.1 C.2.1 hd  (kk H locs ls hP hS hl)
theorem kj_imul (C : Cx g X cc own nL d) {x y : Int32} (hd : decode cc pc = .ok (.imul, 1))  (kk : Kj g X nL (pc + 1) lv (.int (x * y) :: st) M) : Kj g X nL pc lv (.int y :: .int x :: st) M := fun H locs ls hP hS hl => lv_imul C.1 C.2.1 hd  (kk H locs ls hP hS hl)
theorem kj_iand (C : Cx g X cc own nL d) {x y : Int32} (hd : decode cc pc = .ok (.iand, 1))  (kk : Kj g X nL (pc + 1) lv (.int (x &&& y) :: st) M) : Kj g X nL pc lv (.int y :: .int x :: st) M := fun H locs ls hP hS hl => lv_iand C.1 C.2.1 hd  (kk H locs ls hP hS hl)
theorem kj_ior (C : Cx g X cc own nL d) {x y : Int32} (hd : decode cc pc = .ok (.ior, 1))  (kk : Kj g X nL (pc + 1) lv (.int (x ||| y) :: st) M) : Kj g X nL pc lv (.int y :: .int x :: st) M := fun H locs ls hP hS hl => lv_ior C.1 C.2.1 hd  (kk H locs ls hP hS hl)
theorem kj_ixor (C : Cx g X cc own nL d) {x y : Int32} (hd : decode cc pc = .ok (.ixor, 1))  (kk : Kj g X nL (pc + 1) lv (.int (x ^^^ y) :: st) M) : Kj g X nL pc lv (.int y :: .int x :: st) M := fun H locs ls hP hS hl => lv_ixor C.1 C.2.1 hd  (kk H locs ls hP hS hl)
theorem kj_ishl (C : Cx g X cc own nL d) {x y : Int32} (hd : decode cc pc = .ok (.ishl, 1))  (kk : Kj g X nL (pc + 1) lv (.int (x <<< (y &&& 31)) :: st) M) : Kj g X nL pc lv (.int y :: .int x :: st) M := fun H locs ls hP hS hl => lv_ishl C.1 C.2.1 hd  (kk H locs ls hP hS hl)
theorem kj_ishr (C : Cx g X cc own nL d) {x y : Int32} (hd : decode cc pc = .ok (.ishr, 1))  (kk : Kj g X nL (pc + 1) lv (.int (x >>> (y &&& 31)) :: st) M) : Kj g X nL pc lv (.int y :: .int x :: st) M := fun H locs ls hP hS hl => lv_ishr C.1 C.2.1 hd  (kk H locs ls hP hS hl)
theorem kj_idiv (C : Cx g X cc own nL d) {x y : Int32} (hd : decode cc pc = .ok (.idiv, 1)) (hne : ¬ y = 0) (kk : Kj g X nL (pc + 1) lv (.int (x / y) :: st) M) : Kj g X nL pc lv (.int y :: .int x :: st) M := fun H locs ls hP hS hl => lv_idiv C.1 C.2.1 hd hne (kk H locs ls hP hS hl)
theorem kj_irem (C : Cx g X cc own nL d) {x y : Int32} (hd : decode cc pc = .ok (.irem, 1)) (hne : ¬ y = 0) (kk : Kj g X nL (pc + 1) lv (.int (x - x / y * y) :: st) M) : Kj g X nL pc lv (.int y :: .int x :: st) M := fun H locs ls hP hS hl => lv_irem C.1 C.2.1 hd hne (kk H locs ls hP hS hl)
theorem kj_ladd (C : Cx g X cc own nL d) {x y : Int64} (hd : decode cc pc = .ok (.ladd, 1))  (kk : Kj g X nL (pc + 1) lv (.long (x + y) :: st) M) : Kj g X nL pc lv (.long y :: .long x :: st) M := fun H locs ls hP hS hl => lv_ladd C.1 C.2.1 hd  (kk H locs ls hP hS hl)
theorem kj_lsub (C : Cx g X cc own nL d) {x y : Int64} (hd : decode cc pc = .ok (.lsub, 1))  (kk : Kj g X nL (pc + 1) lv (.long (x - y) :: st) M) : Kj g X nL pc lv (.long y :: .long x :: st) M := fun H locs ls hP hS hl => lv_lsub C.1 C.2.1 hd  (kk H locs ls hP hS hl)
theorem kj_lmul (C : Cx g X cc own nL d) {x y : Int64} (hd : decode cc pc = .ok (.lmul, 1))  (kk : Kj g X nL (pc + 1) lv (.long (x * y) :: st) M) : Kj g X nL pc lv (.long y :: .long x :: st) M := fun H locs ls hP hS hl => lv_lmul C.1 C.2.1 hd  (kk H locs ls hP hS hl)
theorem kj_land (C : Cx g X cc own nL d) {x y : Int64} (hd : decode cc pc = .ok (.land, 1))  (kk : Kj g X nL (pc + 1) lv (.long (x &&& y) :: st) M) : Kj g X nL pc lv (.long y :: .long x :: st) M := fun H locs ls hP hS hl => lv_land C.1 C.2.1 hd  (kk H locs ls hP hS hl)
theorem kj_lor (C : Cx g X cc own nL d) {x y : Int64} (hd : decode cc pc = .ok (.lor, 1))  (kk : Kj g X nL (pc + 1) lv (.long (x ||| y) :: st) M) : Kj g X nL pc lv (.long y :: .long x :: st) M := fun H locs ls hP hS hl => lv_lor C.1 C.2.1 hd  (kk H locs ls hP hS hl)
theorem kj_ldiv (C : Cx g X cc own nL d) {x y : Int64} (hd : decode cc pc = .ok (.ldiv, 1)) (hne : ¬ y = 0) (kk : Kj g X nL (pc + 1) lv (.long (x / y) :: st) M) : Kj g X nL pc lv (.long y :: .long x :: st) M := fun H locs ls hP hS hl => lv_ldiv C.1 C.2.1 hd hne (kk H locs ls hP hS hl)
theorem kj_lrem (C : Cx g X cc own nL d) {x y : Int64} (hd : decode cc pc = .ok (.lrem, 1)) (hne : ¬ y = 0) (kk : Kj g X nL (pc + 1) lv (.long (x - x / y * y) :: st) M) : Kj g X nL pc lv (.long y :: .long x :: st) M := fun H locs ls hP hS hl => lv_lrem C.1 C.2.1 hd hne (kk H locs ls hP hS hl)
theorem kj_ineg (C : Cx g X cc own nL d) {x : Int32} (hd : decode cc pc = .ok (.ineg, 1))  (kk : Kj g X nL (pc + 1) lv (.int (-x) :: st) M) : Kj g X nL pc lv (.int x :: st) M := fun H locs ls hP hS hl => lv_ineg C.1 C.2.1 hd  (kk H locs ls hP hS hl)
theorem kj_i2l (C : Cx g X cc own nL d) {x : Int32} (hd : decode cc pc = .ok (.i2l, 1))  (kk : Kj g X nL (pc + 1) lv (.long x.toInt64 :: st) M) : Kj g X nL pc lv (.int x :: st) M := fun H locs ls hP hS hl => lv_i2l C.1 C.2.1 hd rfl (kk H locs ls hP hS hl)
theorem kj_l2i (C : Cx g X cc own nL d) {x : Int64} (hd : decode cc pc = .ok (.l2i, 1))  (kk : Kj g X nL (pc + 1) lv (.int x.toInt32 :: st) M) : Kj g X nL pc lv (.long x :: st) M := fun H locs ls hP hS hl => lv_l2i C.1 C.2.1 hd rfl (kk H locs ls hP hS hl)
theorem kj_iushr (C : Cx g X cc own nL d) {x y : Int32} (hd : decode cc pc = .ok (.iushr, 1))  (kk : Kj g X nL (pc + 1) lv (.int (x.toUInt32 >>> (y.toUInt32 &&& Int32.toUInt32 31)).toInt32 :: st) M) : Kj g X nL pc lv (.int y :: .int x :: st) M := fun H locs ls hP hS hl => lv_iushr C.1 C.2.1 hd rfl (kk H locs ls hP hS hl)
theorem kj_lushr (C : Cx g X cc own nL d) {x : Int64} {y : Int32} (hd : decode cc pc = .ok (.lushr, 1))  (kk : Kj g X nL (pc + 1) lv (.long (x.toUInt64 >>> (y.toInt64.toUInt64 &&& Int64.toUInt64 63)).toInt64 :: st) M) : Kj g X nL pc lv (.int y :: .long x :: st) M := fun H locs ls hP hS hl => lv_lushr C.1 C.2.1 hd rfl (kk H locs ls hP hS hl)
theorem kj_lshl (C : Cx g X cc own nL d) {x : Int64} {y : Int32} (hd : decode cc pc = .ok (.lshl, 1))  (kk : Kj g X nL (pc + 1) lv (.long (x <<< (y.toInt64 &&& 63)) :: st) M) : Kj g X nL pc lv (.int y :: .long x :: st) M := fun H locs ls hP hS hl => lv_lshl C.1 C.2.1 hd rfl (kk H locs ls hP hS hl)
theorem kj_lcmp (C : Cx g X cc own nL d) {x y : Int64} (hd : decode cc pc = .ok (.lcmp, 1))  (kk : Kj g X nL (pc + 1) lv (.int (lg_cmp x y) :: st) M) : Kj g X nL pc lv (.long y :: .long x :: st) M := fun H locs ls hP hS hl => W.lcmp C.1 C.2.1 hd  (kk H locs ls hP hS hl)
theorem kj_dup (C : Cx g X cc own nL d) {va : Value} (hd : decode cc pc = .ok (.dup, 1)) (hva : va.category = 1) (kk : Kj g X nL (pc + 1) lv (va :: va :: st) M) : Kj g X nL pc lv (va :: st) M := fun H locs ls hP hS hl => lv_dup C.1 C.2.1 hd hva (kk H locs ls hP hS hl)
theorem kj_pop (C : Cx g X cc own nL d) {va : Value} (hd : decode cc pc = .ok (.pop, 1)) (hva : va.category = 1) (kk : Kj g X nL (pc + 1) lv (st) M) : Kj g X nL pc lv (va :: st) M := fun H locs ls hP hS hl => lv_pop C.1 C.2.1 hd hva (kk H locs ls hP hS hl)
theorem kj_dup2 (C : Cx g X cc own nL d) {va vb : Value} (hd : decode cc pc = .ok (.dup2, 1)) (hva : va.category = 1) (hvb : vb.category = 1) (kk : Kj g X nL (pc + 1) lv (va :: vb :: va :: vb :: st) M) : Kj g X nL pc lv (va :: vb :: st) M := fun H locs ls hP hS hl => lv_dup2_11 C.1 C.2.1 hd hva hvb (kk H locs ls hP hS hl)
theorem kj_ldc (C : Cx g X cc own nL d) {index : Nat} {v : Int32} (hc : Cond.constant own index v ∈ gW) (hd : decode cc pc = .ok (.ldc index, 2)) (kk : Kj g X nL (pc + 2) lv (.int v :: st) M) : Kj g X nL pc lv st M := fun H locs ls hP hS hl => lv_ldc C.1 C.2.1 C.2.2.2.1 (C.2.2.2.2.1 _ hc) hd (kk H locs ls hP hS hl)
theorem kj_ldcw (C : Cx g X cc own nL d) {index : Nat} {v : Int32} (hc : Cond.constant own index v ∈ gW) (hd : decode cc pc = .ok (.ldc_w index, 3)) (kk : Kj g X nL (pc + 3) lv (.int v :: st) M) : Kj g X nL pc lv st M := fun H locs ls hP hS hl => lv_ldcw C.1 C.2.1 C.2.2.2.1 (C.2.2.2.2.1 _ hc) hd (kk H locs ls hP hS hl)
theorem kj_ldc2 (C : Cx g X cc own nL d) {index : Nat} {v : Int64} (hc : Cond.constantLong own index v ∈ gW) (hd : decode cc pc = .ok (.ldc2_w index, 3)) (kk : Kj g X nL (pc + 3) lv (.long v :: st) M) : Kj g X nL pc lv st M := fun H locs ls hP hS hl => lv_ldc2 C.1 C.2.1 C.2.2.2.1 (C.2.2.2.2.1 _ hc) hd (kk H locs ls hP hS hl)
theorem kj_goto (C : Cx g X cc own nL d) {off : Int} {tgt : Nat} (hd : decode cc pc = .ok (.goto off, 3)) (ht : (pc : Int) + off = (tgt : Int)) (kk : Kj g X nL tgt lv st M) : Kj g X nL pc lv st M := fun H locs ls hP hS hl => lv_goto C.1 C.2.1 hd ht (kk H locs ls hP hS hl)
theorem kj_if_eq (C : Cx g X cc own nL d) {x : Int32} {off : Int} {tgt : Nat} (hd : decode cc pc = .ok (.ifCond .eq off, 3)) (ht : (pc : Int) + off = (tgt : Int)) (kt : x = 0 → Kj g X nL tgt lv st M) (kf : ¬ x = 0 → Kj g X nL (pc + 3) lv st M) : Kj g X nL pc lv (.int x :: st) M := fun H locs ls hP hS hl => lv_if_eq C.1 C.2.1 hd ht (fun q => kt q H locs ls hP hS hl) (fun q => kf q H locs ls hP hS hl)
theorem kj_icmp_eq (C : Cx g X cc own nL d) {x y : Int32} {off : Int} {tgt : Nat} (hd : decode cc pc = .ok (.if_icmp .eq off, 3)) (ht : (pc : Int) + off = (tgt : Int)) (kt : x = y → Kj g X nL tgt lv st M) (kf : ¬ x = y → Kj g X nL (pc + 3) lv st M) : Kj g X nL pc lv (.int y :: .int x :: st) M := fun H locs ls hP hS hl => lv_icmp_eq C.1 C.2.1 hd ht (fun q => kt q H locs ls hP hS hl) (fun q => kf q H locs ls hP hS hl)
theorem kj_if_ne (C : Cx g X cc own nL d) {x : Int32} {off : Int} {tgt : Nat} (hd : decode cc pc = .ok (.ifCond .ne off, 3)) (ht : (pc : Int) + off = (tgt : Int)) (kt : ¬ x = 0 → Kj g X nL tgt lv st M) (kf : x = 0 → Kj g X nL (pc + 3) lv st M) : Kj g X nL pc lv (.int x :: st) M := fun H locs ls hP hS hl => lv_if_ne C.1 C.2.1 hd ht (fun q => kt q H locs ls hP hS hl) (fun q => kf q H locs ls hP hS hl)
theorem kj_icmp_ne (C : Cx g X cc own nL d) {x y : Int32} {off : Int} {tgt : Nat} (hd : decode cc pc = .ok (.if_icmp .ne off, 3)) (ht : (pc : Int) + off = (tgt : Int)) (kt : ¬ x = y → Kj g X nL tgt lv st M) (kf : x = y → Kj g X nL (pc + 3) lv st M) : Kj g X nL pc lv (.int y :: .int x :: st) M := fun H locs ls hP hS hl => lv_icmp_ne C.1 C.2.1 hd ht (fun q => kt q H locs ls hP hS hl) (fun q => kf q H locs ls hP hS hl)
theorem kj_if_lt (C : Cx g X cc own nL d) {x : Int32} {off : Int} {tgt : Nat} (hd : decode cc pc = .ok (.ifCond .lt off, 3)) (ht : (pc : Int) + off = (tgt : Int)) (kt : x < 0 → Kj g X nL tgt lv st M) (kf : ¬ x < 0 → Kj g X nL (pc + 3) lv st M) : Kj g X nL pc lv (.int x :: st) M := fun H locs ls hP hS hl => lv_if_lt C.1 C.2.1 hd ht (fun q => kt q H locs ls hP hS hl) (fun q => kf q H locs ls hP hS hl)
theorem kj_icmp_lt (C : Cx g X cc own nL d) {x y : Int32} {off : Int} {tgt : Nat} (hd : decode cc pc = .ok (.if_icmp .lt off, 3)) (ht : (pc : Int) + off = (tgt : Int)) (kt : x < y → Kj g X nL tgt lv st M) (kf : ¬ x < y → Kj g X nL (pc + 3) lv st M) : Kj g X nL pc lv (.int y :: .int x :: st) M := fun H locs ls hP hS hl => lv_icmp_lt C.1 C.2.1 hd ht (fun q => kt q H locs ls hP hS hl) (fun q => kf q H locs ls hP hS hl)
theorem kj_if_ge (C : Cx g X cc own nL d) {x : Int32} {off : Int} {tgt : Nat} (hd : decode cc pc = .ok (.ifCond .ge off, 3)) (ht : (pc : Int) + off = (tgt : Int)) (kt : 0 ≤ x → Kj g X nL tgt lv st M) (kf : ¬ 0 ≤ x → Kj g X nL (pc + 3) lv st M) : Kj g X nL pc lv (.int x :: st) M := fun H locs ls hP hS hl => lv_if_ge C.1 C.2.1 hd ht (fun q => kt q H locs ls hP hS hl) (fun q => kf q H locs ls hP hS hl)
theorem kj_icmp_ge (C : Cx g X cc own nL d) {x y : Int32} {off : Int} {tgt : Nat} (hd : decode cc pc = .ok (.if_icmp .ge off, 3)) (ht : (pc : Int) + off = (tgt : Int)) (kt : y ≤ x → Kj g X nL tgt lv st M) (kf : ¬ y ≤ x → Kj g X nL (pc + 3) lv st M) : Kj g X nL pc lv (.int y :: .int x :: st) M := fun H locs ls hP hS hl => lv_icmp_ge C.1 C.2.1 hd ht (fun q => kt q H locs ls hP hS hl) (fun q => kf q H locs ls hP hS hl)
theorem kj_if_gt (C : Cx g X cc own nL d) {x : Int32} {off : Int} {tgt : Nat} (hd : decode cc pc = .ok (.ifCond .gt off, 3)) (ht : (pc : Int) + off = (tgt : Int)) (kt : 0 < x → Kj g X nL tgt lv st M) (kf : ¬ 0 < x → Kj g X nL (pc + 3) lv st M) : Kj g X nL pc lv (.int x :: st) M := fun H locs ls hP hS hl => lv_if_gt C.1 C.2.1 hd ht (fun q => kt q H locs ls hP hS hl) (fun q => kf q H locs ls hP hS hl)
theorem kj_icmp_gt (C : Cx g X cc own nL d) {x y : Int32} {off : Int} {tgt : Nat} (hd : decode cc pc = .ok (.if_icmp .gt off, 3)) (ht : (pc : Int) + off = (tgt : Int)) (kt : y < x → Kj g X nL tgt lv st M) (kf : ¬ y < x → Kj g X nL (pc + 3) lv st M) : Kj g X nL pc lv (.int y :: .int x :: st) M := fun H locs ls hP hS hl => lv_icmp_gt C.1 C.2.1 hd ht (fun q => kt q H locs ls hP hS hl) (fun q => kf q H locs ls hP hS hl)
theorem kj_if_le (C : Cx g X cc own nL d) {x : Int32} {off : Int} {tgt : Nat} (hd : decode cc pc = .ok (.ifCond .le off, 3)) (ht : (pc : Int) + off = (tgt : Int)) (kt : x ≤ 0 → Kj g X nL tgt lv st M) (kf : ¬ x ≤ 0 → Kj g X nL (pc + 3) lv st M) : Kj g X nL pc lv (.int x :: st) M := fun H locs ls hP hS hl => lv_if_le C.1 C.2.1 hd ht (fun q => kt q H locs ls hP hS hl) (fun q => kf q H locs ls hP hS hl)
theorem kj_icmp_le (C : Cx g X cc own nL d) {x y : Int32} {off : Int} {tgt : Nat} (hd : decode cc pc = .ok (.if_icmp .le off, 3)) (ht : (pc : Int) + off = (tgt : Int)) (kt : x ≤ y → Kj g X nL tgt lv st M) (kf : ¬ x ≤ y → Kj g X nL (pc + 3) lv st M) : Kj g X nL pc lv (.int y :: .int x :: st) M := fun H locs ls hP hS hl => lv_icmp_le C.1 C.2.1 hd ht (fun q => kt q H locs ls hP hS hl) (fun q => kf q H locs ls hP hS hl)
theorem kj_tsIn (C : Cx g X cc own nL d) {dflt lo hi : Int} {offs : Array Int} {len : Nat} {x : Int32} {off : Int} {tgt : Nat} (hd : decode cc pc = .ok (.tableswitch dflt lo hi offs, len)) (h1 : ¬ x.toInt < lo) (h2 : ¬ hi < x.toInt) (ho : offs[(x.toInt - lo).toNat]? = some off) (ht : (pc : Int) + off = (tgt : Int)) (kk : Kj g X nL tgt lv st M) : Kj g X nL pc lv (.int x :: st) M := fun H locs ls hP hS hl => lv_tableIn C.1 C.2.1 hd h1 h2 ho ht (kk H locs ls hP hS hl)
theorem kj_tsOut (C : Cx g X cc own nL d) {dflt lo hi : Int} {offs : Array Int} {len : Nat} {x : Int32} {tgt : Nat} (hd : decode cc pc = .ok (.tableswitch dflt lo hi offs, len)) (h : x.toInt < lo ∨ hi < x.toInt) (ht : (pc : Int) + dflt = (tgt : Int)) (kk : Kj g X nL tgt lv st M) : Kj g X nL pc lv (.int x :: st) M := fun H locs ls hP hS hl => lv_tableOut C.1 C.2.1 hd h ht (kk H locs ls hP hS hl)
theorem kj_look (C : Cx g X cc own nL d) {dflt : Int} {ps : Array (Int × Int)} {len : Nat} {x : Int32} {off : Int} {tgt : Nat} (hd : decode cc pc = .ok (.lookupswitch dflt ps, len)) (hp : (ps.toList.zip (ps.toList.drop 1)).all (fun (a, next) => a.1 < next.1) = true) (ho : Op.lookupswitch.offset ps.toList dflt x.toInt = off) (ht : (pc : Int) + off = (tgt : Int)) (kk : Kj g X nL tgt lv st M) : Kj g X nL pc lv (.int x :: st) M := fun H locs ls hP hS hl => lv_lookup C.1 C.2.1 hd hp ho ht (kk H locs ls hP hS hl)
theorem kj_ild (C : Cx g X cc own nL d) {i : Nat} {x : Int32} (hd : decode cc pc = .ok (.iload i, 2)) (h : lv[i]? = some (some (.int x))) (kk : Kj g X nL (pc + 2) lv (.int x :: st) M) : Kj g X nL pc lv st M := fun H locs ls hP hS hl => lv_iload C.1 C.2.1 hd (hl.2.2 _ _ h) (kk H locs ls hP hS hl)
theorem kj_ildn (C : Cx g X cc own nL d) {k : Fin 4} {x : Int32} (hd : decode cc pc = .ok (.iload_n k, 1)) (h : lv[(k : Nat)]? = some (some (.int x))) (kk : Kj g X nL (pc + 1) lv (.int x :: st) M) : Kj g X nL pc lv st M := fun H locs ls hP hS hl => lv_iload_n C.1 C.2.1 hd rfl (hl.2.2 _ _ h) (kk H locs ls hP hS hl)
theorem kj_ist (C : Cx g X cc own nL d) {i : Nat} {x : Int32} (hd : decode cc pc = .ok (.istore i, 2)) (hn : i < nL) (hp : ∀ j : Nat, j + 1 = i → ∀ w, lv[j]? = some (some w) → w.category = 1) (kk : Kj g X nL (pc + 2) (lv.set i (some (.int x))) st M) : Kj g X nL pc lv (.int x :: st) M := fun H locs ls hP hS hl => lv_istore C.1 C.2.1 hd hl.has hn rfl (fun ls2 hl2 => kk H locs ls2 hP hS (hl.st1 hl2 hp))
theorem kj_istn (C : Cx g X cc own nL d) {k : Fin 4} {x : Int32} (hd : decode cc pc = .ok (.istore_n k, 1)) (hn : (k : Nat) < nL) (hp : ∀ j : Nat, j + 1 = (k : Nat) → ∀ w, lv[j]? = some (some w) → w.category = 1) (kk : Kj g X nL (pc + 1) (lv.set (k : Nat) (some (.int x))) st M) : Kj g X nL pc lv (.int x :: st) M := fun H locs ls hP hS hl => lv_istore_n C.1 C.2.1 hd rfl hl.has hn rfl (fun ls2 hl2 => kk H locs ls2 hP hS (hl.st1 hl2 hp))
theorem kj_lld (C : Cx g X cc own nL d) {i : Nat} {x : Int64} (hd : decode cc pc = .ok (.lload i, 2)) (h : lv[i]? = some (some (.long x))) (kk : Kj g X nL (pc + 2) lv (.long x :: st) M) : Kj g X nL pc lv st M := fun H locs ls hP hS hl => lv_lload C.1 C.2.1 hd (hl.2.2 _ _ h) (kk H locs ls hP hS hl)
theorem kj_lldn (C : Cx g X cc own nL d) {k : Fin 4} {x : Int64} (hd : decode cc pc = .ok (.lload_n k, 1)) (h : lv[(k : Nat)]? = some (some (.long x))) (kk : Kj g X nL (pc + 1) lv (.long x :: st) M) : Kj g X nL pc lv st M := fun H locs ls hP hS hl => lv_lload_n C.1 C.2.1 hd rfl (hl.2.2 _ _ h) (kk H locs ls hP hS hl)
theorem kj_lst (C : Cx g X cc own nL d) {i : Nat} {x : Int64} (hd : decode cc pc = .ok (.lstore i, 2)) (hn : i + 1 < nL) (hp : ∀ j : Nat, j + 1 = i → ∀ w, lv[j]? = some (some w) → w.category = 1) (kk : Kj g X nL (pc + 2) ((lv.set i (some (.long x))).set (i + 1) none) st M) : Kj g X nL pc lv (.long x :: st) M := fun H locs ls hP hS hl => lv_lstore C.1 C.2.1 hd hl.has hn rfl (fun ls2 hl2 => kk H locs ls2 hP hS (hl.st2 hl2 hp))
theorem kj_lstn (C : Cx g X cc own nL d) {k : Fin 4} {x : Int64} (hd : decode cc pc = .ok (.lstore_n k, 1)) (hn : (k : Nat) + 1 < nL) (hp : ∀ j : Nat, j + 1 = (k : Nat) → ∀ w, lv[j]? = some (some w) → w.category = 1) (kk : Kj g X nL (pc + 1) ((lv.set (k : Nat) (some (.long x))).set ((k : Nat) + 1) none) st M) : Kj g X nL pc lv (.long x :: st) M := fun H locs ls hP hS hl => lv_lstore_n C.1 C.2.1 hd rfl hl.has hn rfl (fun ls2 hl2 => kk H locs ls2 hP hS (hl.st2 hl2 hp))
theorem kj_ald (C : Cx g X cc own nL d) {i : Nat} {x : Nat} (hd : decode cc pc = .ok (.aload i, 2)) (h : lv[i]? = some (some (.ref x))) (kk : Kj g X nL (pc + 2) lv (.ref x :: st) M) : Kj g X nL pc lv st M := fun H locs ls hP hS hl => lv_aload C.1 C.2.1 hd (hl.2.2 _ _ h) (kk H locs ls hP hS hl)
theorem kj_aldn (C : Cx g X cc own nL d) {k : Fin 4} {x : Nat} (hd : decode cc pc = .ok (.aload_n k, 1)) (h : lv[(k : Nat)]? = some (some (.ref x))) (kk : Kj g X nL (pc + 1) lv (.ref x :: st) M) : Kj g X nL pc lv st M := fun H locs ls hP hS hl => lv_aload_n C.1 C.2.1 hd rfl (hl.2.2 _ _ h) (kk H locs ls hP hS hl)
theorem kj_ast (C : Cx g X cc own nL d) {i : Nat} {x : Nat} (hd : decode cc pc = .ok (.astore i, 2)) (hn : i < nL) (hp : ∀ j : Nat, j + 1 = i → ∀ w, lv[j]? = some (some w) → w.category = 1) (kk : Kj g X nL (pc + 2) (lv.set i (some (.ref x))) st M) : Kj g X nL pc lv (.ref x :: st) M := fun H locs ls hP hS hl => lv_astore C.1 C.2.1 hd hl.has hn rfl (fun ls2 hl2 => kk H locs ls2 hP hS (hl.st1 hl2 hp))
theorem kj_astn (C : Cx g X cc own nL d) {k : Fin 4} {x : Nat} (hd : decode cc pc = .ok (.astore_n k, 1)) (hn : (k : Nat) < nL) (hp : ∀ j : Nat, j + 1 = (k : Nat) → ∀ w, lv[j]? = some (some w) → w.category = 1) (kk : Kj g X nL (pc + 1) (lv.set (k : Nat) (some (.ref x))) st M) : Kj g X nL pc lv (.ref x :: st) M := fun H locs ls hP hS hl => lv_astore_n C.1 C.2.1 hd rfl hl.has hn rfl (fun ls2 hl2 => kk H locs ls2 hP hS (hl.st1 hl2 hp))
theorem kj_iinc (C : Cx g X cc own nL d) {i : Nat} {n : Int} {x v : Int32} (hd : decode cc pc = .ok (.iinc i n, 3)) (h : lv[i]? = some (some (.int x))) (hv : x + Int32.ofInt n = v) (hn : i < nL) (hp : ∀ j : Nat, j + 1 = i → ∀ w, lv[j]? = some (some w) → w.category = 1) (kk : Kj g X nL (pc + 3) (lv.set i (some (.int v))) st M) : Kj g X nL pc lv st M := fun H locs ls hP hS hl => by
  obtain ⟨k, hk⟩ := List.getElem?_of_mem ((ll_mem (q := (i, Value.int x))).mpr ⟨hn, h⟩)
  exact lv_iinc C.1 C.2.1 hd hl.has hk hv hn rfl (fun ls2 hl2 => kk H locs ls2 hP hS (hl.st1 hl2 hp))
theorem kj_ild0 (C : Cx g X cc own nL d) {r : List (Option Value)} {x : Int32} (hd : decode cc pc = .ok (.iload_n 0, 1)) (kk : Kj g X nL (pc + 1) (some (.int x) :: r) (.int x :: st) M) : Kj g X nL pc (some (.int x) :: r) st M := kj_ildn (k := 0) C hd rfl kk
theorem kj_ist0 (C : Cx g X cc own nL d) {b0 : Option Value} {r : List (Option Value)} {x : Int32} (hd : decode cc pc = .ok (.istore_n 0, 1)) (hn : 0 < nL)  (kk : Kj g X nL (pc + 1) (some (.int x) :: r) st M) : Kj g X nL pc (b0 :: r) (.int x :: st) M := kj_istn (k := 0) C hd hn (by
  intro j hj; omega
  ) kk
theorem kj_lld0 (C : Cx g X cc own nL d) {r : List (Option Value)} {x : Int64} (hd : decode cc pc = .ok (.lload_n 0, 1)) (kk : Kj g X nL (pc + 1) (some (.long x) :: r) (.long x :: st) M) : Kj g X nL pc (some (.long x) :: r) st M := kj_lldn (k := 0) C hd rfl kk
theorem kj_lst0 (C : Cx g X cc own nL d) {b0 b1 : Option Value} {r : List (Option Value)} {x : Int64} (hd : decode cc pc = .ok (.lstore_n 0, 1)) (hn : 0 + 1 < nL)  (kk : Kj g X nL (pc + 1) (some (.long x) :: none :: r) st M) : Kj g X nL pc (b0 :: b1 :: r) (.long x :: st) M := kj_lstn (k := 0) C hd hn (by
  intro j hj; omega
  ) kk
theorem kj_ald0 (C : Cx g X cc own nL d) {r : List (Option Value)} {x : Nat} (hd : decode cc pc = .ok (.aload_n 0, 1)) (kk : Kj g X nL (pc + 1) (some (.ref x) :: r) (.ref x :: st) M) : Kj g X nL pc (some (.ref x) :: r) st M := kj_aldn (k := 0) C hd rfl kk
theorem kj_ast0 (C : Cx g X cc own nL d) {b0 : Option Value} {r : List (Option Value)} {x : Nat} (hd : decode cc pc = .ok (.astore_n 0, 1)) (hn : 0 < nL)  (kk : Kj g X nL (pc + 1) (some (.ref x) :: r) st M) : Kj g X nL pc (b0 :: r) (.ref x :: st) M := kj_astn (k := 0) C hd hn (by
  intro j hj; omega
  ) kk
theorem kj_iinc0 (C : Cx g X cc own nL d) {r : List (Option Value)} {n : Int} {x v : Int32} (hd : decode cc pc = .ok (.iinc 0 n, 3)) (hn : 0 < nL)  (hv : x + Int32.ofInt n = v) (kk : Kj g X nL (pc + 3) (some (.int v) :: r) st M) : Kj g X nL pc (some (.int x) :: r) st M := kj_iinc (i := 0) C hd rfl hv hn (by
  intro j hj; omega
  ) kk
theorem kj_ild1 (C : Cx g X cc own nL d) {a0 : Option Value} {r : List (Option Value)} {x : Int32} (hd : decode cc pc = .ok (.iload_n 1, 1)) (kk : Kj g X nL (pc + 1) (a0 :: some (.int x) :: r) (.int x :: st) M) : Kj g X nL pc (a0 :: some (.int x) :: r) st M := kj_ildn (k := 1) C hd rfl kk
theorem kj_ist1 (C : Cx g X cc own nL d) {a0 b0 : Option Value} {r : List (Option Value)} {x : Int32} (hd : decode cc pc = .ok (.istore_n 1, 1)) (hn : 1 < nL) (hp : nl a0 = true) (kk : Kj g X nL (pc + 1) (a0 :: some (.int x) :: r) st M) : Kj g X nL pc (a0 :: b0 :: r) (.int x :: st) M := kj_istn (k := 1) C hd hn (by
  intro j hj w hw; obtain rfl : j = 0 := by (have : j + 1 = 1 := hj); omega
  simp at hw; rw [hw] at hp; simpa [nl] using hp) kk
theorem kj_lld1 (C : Cx g X cc own nL d) {a0 : Option Value} {r : List (Option Value)} {x : Int64} (hd : decode cc pc = .ok (.lload_n 1, 1)) (kk : Kj g X nL (pc + 1) (a0 :: some (.long x) :: r) (.long x :: st) M) : Kj g X nL pc (a0 :: some (.long x) :: r) st M := kj_lldn (k := 1) C hd rfl kk
theorem kj_lst1 (C : Cx g X cc own nL d) {a0 b0 b1 : Option Value} {r : List (Option Value)} {x : Int64} (hd : decode cc pc = .ok (.lstore_n 1, 1)) (hn : 1 + 1 < nL) (hp : nl a0 = true) (kk : Kj g X nL (pc + 1) (a0 :: some (.long x) :: none :: r) st M) : Kj g X nL pc (a0 :: b0 :: b1 :: r) (.long x :: st) M := kj_lstn (k := 1) C hd hn (by
  intro j hj w hw; obtain rfl : j = 0 := by (have : j + 1 = 1 := hj); omega
  simp at hw; rw [hw] at hp; simpa [nl] using hp) kk
theorem kj_ald1 (C : Cx g X cc own nL d) {a0 : Option Value} {r : List (Option Value)} {x : Nat} (hd : decode cc pc = .ok (.aload_n 1, 1)) (kk : Kj g X nL (pc + 1) (a0 :: some (.ref x) :: r) (.ref x :: st) M) : Kj g X nL pc (a0 :: some (.ref x) :: r) st M := kj_aldn (k := 1) C hd rfl kk
theorem kj_ast1 (C : Cx g X cc own nL d) {a0 b0 : Option Value} {r : List (Option Value)} {x : Nat} (hd : decode cc pc = .ok (.astore_n 1, 1)) (hn : 1 < nL) (hp : nl a0 = true) (kk : Kj g X nL (pc + 1) (a0 :: some (.ref x) :: r) st M) : Kj g X nL pc (a0 :: b0 :: r) (.ref x :: st) M := kj_astn (k := 1) C hd hn (by
  intro j hj w hw; obtain rfl : j = 0 := by (have : j + 1 = 1 := hj); omega
  simp at hw; rw [hw] at hp; simpa [nl] using hp) kk
theorem kj_iinc1 (C : Cx g X cc own nL d) {a0 : Option Value} {r : List (Option Value)} {n : Int} {x v : Int32} (hd : decode cc pc = .ok (.iinc 1 n, 3)) (hn : 1 < nL) (hp : nl a0 = true) (hv : x + Int32.ofInt n = v) (kk : Kj g X nL (pc + 3) (a0 :: some (.int v) :: r) st M) : Kj g X nL pc (a0 :: some (.int x) :: r) st M := kj_iinc (i := 1) C hd rfl hv hn (by
  intro j hj w hw; obtain rfl : j = 0 := by (have : j + 1 = 1 := hj); omega
  simp at hw; rw [hw] at hp; simpa [nl] using hp) kk
theorem kj_ild2 (C : Cx g X cc own nL d) {a0 a1 : Option Value} {r : List (Option Value)} {x : Int32} (hd : decode cc pc = .ok (.iload_n 2, 1)) (kk : Kj g X nL (pc + 1) (a0 :: a1 :: some (.int x) :: r) (.int x :: st) M) : Kj g X nL pc (a0 :: a1 :: some (.int x) :: r) st M := kj_ildn (k := 2) C hd rfl kk
theorem kj_ist2 (C : Cx g X cc own nL d) {a0 a1 b0 : Option Value} {r : List (Option Value)} {x : Int32} (hd : decode cc pc = .ok (.istore_n 2, 1)) (hn : 2 < nL) (hp : nl a1 = true) (kk : Kj g X nL (pc + 1) (a0 :: a1 :: some (.int x) :: r) st M) : Kj g X nL pc (a0 :: a1 :: b0 :: r) (.int x :: st) M := kj_istn (k := 2) C hd hn (by
  intro j hj w hw; obtain rfl : j = 1 := by (have : j + 1 = 2 := hj); omega
  simp at hw; rw [hw] at hp; simpa [nl] using hp) kk
theorem kj_lld2 (C : Cx g X cc own nL d) {a0 a1 : Option Value} {r : List (Option Value)} {x : Int64} (hd : decode cc pc = .ok (.lload_n 2, 1)) (kk : Kj g X nL (pc + 1) (a0 :: a1 :: some (.long x) :: r) (.long x :: st) M) : Kj g X nL pc (a0 :: a1 :: some (.long x) :: r) st M := kj_lldn (k := 2) C hd rfl kk
theorem kj_lst2 (C : Cx g X cc own nL d) {a0 a1 b0 b1 : Option Value} {r : List (Option Value)} {x : Int64} (hd : decode cc pc = .ok (.lstore_n 2, 1)) (hn : 2 + 1 < nL) (hp : nl a1 = true) (kk : Kj g X nL (pc + 1) (a0 :: a1 :: some (.long x) :: none :: r) st M) : Kj g X nL pc (a0 :: a1 :: b0 :: b1 :: r) (.long x :: st) M := kj_lstn (k := 2) C hd hn (by
  intro j hj w hw; obtain rfl : j = 1 := by (have : j + 1 = 2 := hj); omega
  simp at hw; rw [hw] at hp; simpa [nl] using hp) kk
theorem kj_ald2 (C : Cx g X cc own nL d) {a0 a1 : Option Value} {r : List (Option Value)} {x : Nat} (hd : decode cc pc = .ok (.aload_n 2, 1)) (kk : Kj g X nL (pc + 1) (a0 :: a1 :: some (.ref x) :: r) (.ref x :: st) M) : Kj g X nL pc (a0 :: a1 :: some (.ref x) :: r) st M := kj_aldn (k := 2) C hd rfl kk
theorem kj_ast2 (C : Cx g X cc own nL d) {a0 a1 b0 : Option Value} {r : List (Option Value)} {x : Nat} (hd : decode cc pc = .ok (.astore_n 2, 1)) (hn : 2 < nL) (hp : nl a1 = true) (kk : Kj g X nL (pc + 1) (a0 :: a1 :: some (.ref x) :: r) st M) : Kj g X nL pc (a0 :: a1 :: b0 :: r) (.ref x :: st) M := kj_astn (k := 2) C hd hn (by
  intro j hj w hw; obtain rfl : j = 1 := by (have : j + 1 = 2 := hj); omega
  simp at hw; rw [hw] at hp; simpa [nl] using hp) kk
theorem kj_iinc2 (C : Cx g X cc own nL d) {a0 a1 : Option Value} {r : List (Option Value)} {n : Int} {x v : Int32} (hd : decode cc pc = .ok (.iinc 2 n, 3)) (hn : 2 < nL) (hp : nl a1 = true) (hv : x + Int32.ofInt n = v) (kk : Kj g X nL (pc + 3) (a0 :: a1 :: some (.int v) :: r) st M) : Kj g X nL pc (a0 :: a1 :: some (.int x) :: r) st M := kj_iinc (i := 2) C hd rfl hv hn (by
  intro j hj w hw; obtain rfl : j = 1 := by (have : j + 1 = 2 := hj); omega
  simp at hw; rw [hw] at hp; simpa [nl] using hp) kk
theorem kj_ild3 (C : Cx g X cc own nL d) {a0 a1 a2 : Option Value} {r : List (Option Value)} {x : Int32} (hd : decode cc pc = .ok (.iload_n 3, 1)) (kk : Kj g X nL (pc + 1) (a0 :: a1 :: a2 :: some (.int x) :: r) (.int x :: st) M) : Kj g X nL pc (a0 :: a1 :: a2 :: some (.int x) :: r) st M := kj_ildn (k := 3) C hd rfl kk
theorem kj_ist3 (C : Cx g X cc own nL d) {a0 a1 a2 b0 : Option Value} {r : List (Option Value)} {x : Int32} (hd : decode cc pc = .ok (.istore_n 3, 1)) (hn : 3 < nL) (hp : nl a2 = true) (kk : Kj g X nL (pc + 1) (a0 :: a1 :: a2 :: some (.int x) :: r) st M) : Kj g X nL pc (a0 :: a1 :: a2 :: b0 :: r) (.int x :: st) M := kj_istn (k := 3) C hd hn (by
  intro j hj w hw; obtain rfl : j = 2 := by (have : j + 1 = 3 := hj); omega
  simp at hw; rw [hw] at hp; simpa [nl] using hp) kk
theorem kj_lld3 (C : Cx g X cc own nL d) {a0 a1 a2 : Option Value} {r : List (Option Value)} {x : Int64} (hd : decode cc pc = .ok (.lload_n 3, 1)) (kk : Kj g X nL (pc + 1) (a0 :: a1 :: a2 :: some (.long x) :: r) (.long x :: st) M) : Kj g X nL pc (a0 :: a1 :: a2 :: some (.long x) :: r) st M := kj_lldn (k := 3) C hd rfl kk
theorem kj_lst3 (C : Cx g X cc own nL d) {a0 a1 a2 b0 b1 : Option Value} {r : List (Option Value)} {x : Int64} (hd : decode cc pc = .ok (.lstore_n 3, 1)) (hn : 3 + 1 < nL) (hp : nl a2 = true) (kk : Kj g X nL (pc + 1) (a0 :: a1 :: a2 :: some (.long x) :: none :: r) st M) : Kj g X nL pc (a0 :: a1 :: a2 :: b0 :: b1 :: r) (.long x :: st) M := kj_lstn (k := 3) C hd hn (by
  intro j hj w hw; obtain rfl : j = 2 := by (have : j + 1 = 3 := hj); omega
  simp at hw; rw [hw] at hp; simpa [nl] using hp) kk
theorem kj_ald3 (C : Cx g X cc own nL d) {a0 a1 a2 : Option Value} {r : List (Option Value)} {x : Nat} (hd : decode cc pc = .ok (.aload_n 3, 1)) (kk : Kj g X nL (pc + 1) (a0 :: a1 :: a2 :: some (.ref x) :: r) (.ref x :: st) M) : Kj g X nL pc (a0 :: a1 :: a2 :: some (.ref x) :: r) st M := kj_aldn (k := 3) C hd rfl kk
theorem kj_ast3 (C : Cx g X cc own nL d) {a0 a1 a2 b0 : Option Value} {r : List (Option Value)} {x : Nat} (hd : decode cc pc = .ok (.astore_n 3, 1)) (hn : 3 < nL) (hp : nl a2 = true) (kk : Kj g X nL (pc + 1) (a0 :: a1 :: a2 :: some (.ref x) :: r) st M) : Kj g X nL pc (a0 :: a1 :: a2 :: b0 :: r) (.ref x :: st) M := kj_astn (k := 3) C hd hn (by
  intro j hj w hw; obtain rfl : j = 2 := by (have : j + 1 = 3 := hj); omega
  simp at hw; rw [hw] at hp; simpa [nl] using hp) kk
theorem kj_iinc3 (C : Cx g X cc own nL d) {a0 a1 a2 : Option Value} {r : List (Option Value)} {n : Int} {x v : Int32} (hd : decode cc pc = .ok (.iinc 3 n, 3)) (hn : 3 < nL) (hp : nl a2 = true) (hv : x + Int32.ofInt n = v) (kk : Kj g X nL (pc + 3) (a0 :: a1 :: a2 :: some (.int v) :: r) st M) : Kj g X nL pc (a0 :: a1 :: a2 :: some (.int x) :: r) st M := kj_iinc (i := 3) C hd rfl hv hn (by
  intro j hj w hw; obtain rfl : j = 2 := by (have : j + 1 = 3 := hj); omega
  simp at hw; rw [hw] at hp; simpa [nl] using hp) kk
theorem kj_ild4 (C : Cx g X cc own nL d) {a0 a1 a2 a3 : Option Value} {r : List (Option Value)} {x : Int32} (hd : decode cc pc = .ok (.iload 4, 2)) (kk : Kj g X nL (pc + 2) (a0 :: a1 :: a2 :: a3 :: some (.int x) :: r) (.int x :: st) M) : Kj g X nL pc (a0 :: a1 :: a2 :: a3 :: some (.int x) :: r) st M := kj_ild (i := 4) C hd rfl kk
theorem kj_ist4 (C : Cx g X cc own nL d) {a0 a1 a2 a3 b0 : Option Value} {r : List (Option Value)} {x : Int32} (hd : decode cc pc = .ok (.istore 4, 2)) (hn : 4 < nL) (hp : nl a3 = true) (kk : Kj g X nL (pc + 2) (a0 :: a1 :: a2 :: a3 :: some (.int x) :: r) st M) : Kj g X nL pc (a0 :: a1 :: a2 :: a3 :: b0 :: r) (.int x :: st) M := kj_ist (i := 4) C hd hn (by
  intro j hj w hw; obtain rfl : j = 3 := by (have : j + 1 = 4 := hj); omega
  simp at hw; rw [hw] at hp; simpa [nl] using hp) kk
theorem kj_lld4 (C : Cx g X cc own nL d) {a0 a1 a2 a3 : Option Value} {r : List (Option Value)} {x : Int64} (hd : decode cc pc = .ok (.lload 4, 2)) (kk : Kj g X nL (pc + 2) (a0 :: a1 :: a2 :: a3 :: some (.long x) :: r) (.long x :: st) M) : Kj g X nL pc (a0 :: a1 :: a2 :: a3 :: some (.long x) :: r) st M := kj_lld (i := 4) C hd rfl kk
theorem kj_lst4 (C : Cx g X cc own nL d) {a0 a1 a2 a3 b0 b1 : Option Value} {r : List (Option Value)} {x : Int64} (hd : decode cc pc = .ok (.lstore 4, 2)) (hn : 4 + 1 < nL) (hp : nl a3 = true) (kk : Kj g X nL (pc + 2) (a0 :: a1 :: a2 :: a3 :: some (.long x) :: none :: r) st M) : Kj g X nL pc (a0 :: a1 :: a2 :: a3 :: b0 :: b1 :: r) (.long x :: st) M := kj_lst (i := 4) C hd hn (by
  intro j hj w hw; obtain rfl : j = 3 := by (have : j + 1 = 4 := hj); omega
  simp at hw; rw [hw] at hp; simpa [nl] using hp) kk
theorem kj_ald4 (C : Cx g X cc own nL d) {a0 a1 a2 a3 : Option Value} {r : List (Option Value)} {x : Nat} (hd : decode cc pc = .ok (.aload 4, 2)) (kk : Kj g X nL (pc + 2) (a0 :: a1 :: a2 :: a3 :: some (.ref x) :: r) (.ref x :: st) M) : Kj g X nL pc (a0 :: a1 :: a2 :: a3 :: some (.ref x) :: r) st M := kj_ald (i := 4) C hd rfl kk
theorem kj_ast4 (C : Cx g X cc own nL d) {a0 a1 a2 a3 b0 : Option Value} {r : List (Option Value)} {x : Nat} (hd : decode cc pc = .ok (.astore 4, 2)) (hn : 4 < nL) (hp : nl a3 = true) (kk : Kj g X nL (pc + 2) (a0 :: a1 :: a2 :: a3 :: some (.ref x) :: r) st M) : Kj g X nL pc (a0 :: a1 :: a2 :: a3 :: b0 :: r) (.ref x :: st) M := kj_ast (i := 4) C hd hn (by
  intro j hj w hw; obtain rfl : j = 3 := by (have : j + 1 = 4 := hj); omega
  simp at hw; rw [hw] at hp; simpa [nl] using hp) kk
theorem kj_iinc4 (C : Cx g X cc own nL d) {a0 a1 a2 a3 : Option Value} {r : List (Option Value)} {n : Int} {x v : Int32} (hd : decode cc pc = .ok (.iinc 4 n, 3)) (hn : 4 < nL) (hp : nl a3 = true) (hv : x + Int32.ofInt n = v) (kk : Kj g X nL (pc + 3) (a0 :: a1 :: a2 :: a3 :: some (.int v) :: r) st M) : Kj g X nL pc (a0 :: a1 :: a2 :: a3 :: some (.int x) :: r) st M := kj_iinc (i := 4) C hd rfl hv hn (by
  intro j hj w hw; obtain rfl : j = 3 := by (have : j + 1 = 4 := hj); omega
  simp at hw; rw [hw] at hp; simpa [nl] using hp) kk
theorem kj_ild5 (C : Cx g X cc own nL d) {a0 a1 a2 a3 a4 : Option Value} {r : List (Option Value)} {x : Int32} (hd : decode cc pc = .ok (.iload 5, 2)) (kk : Kj g X nL (pc + 2) (a0 :: a1 :: a2 :: a3 :: a4 :: some (.int x) :: r) (.int x :: st) M) : Kj g X nL pc (a0 :: a1 :: a2 :: a3 :: a4 :: some (.int x) :: r) st M := kj_ild (i := 5) C hd rfl kk
theorem kj_ist5 (C : Cx g X cc own nL d) {a0 a1 a2 a3 a4 b0 : Option Value} {r : List (Option Value)} {x : Int32} (hd : decode cc pc = .ok (.istore 5, 2)) (hn : 5 < nL) (hp : nl a4 = true) (kk : Kj g X nL (pc + 2) (a0 :: a1 :: a2 :: a3 :: a4 :: some (.int x) :: r) st M) : Kj g X nL pc (a0 :: a1 :: a2 :: a3 :: a4 :: b0 :: r) (.int x :: st) M := kj_ist (i := 5) C hd hn (by
  intro j hj w hw; obtain rfl : j = 4 := by (have : j + 1 = 5 := hj); omega
  simp at hw; rw [hw] at hp; simpa [nl] using hp) kk
theorem kj_lld5 (C : Cx g X cc own nL d) {a0 a1 a2 a3 a4 : Option Value} {r : List (Option Value)} {x : Int64} (hd : decode cc pc = .ok (.lload 5, 2)) (kk : Kj g X nL (pc + 2) (a0 :: a1 :: a2 :: a3 :: a4 :: some (.long x) :: r) (.long x :: st) M) : Kj g X nL pc (a0 :: a1 :: a2 :: a3 :: a4 :: some (.long x) :: r) st M := kj_lld (i := 5) C hd rfl kk
theorem kj_lst5 (C : Cx g X cc own nL d) {a0 a1 a2 a3 a4 b0 b1 : Option Value} {r : List (Option Value)} {x : Int64} (hd : decode cc pc = .ok (.lstore 5, 2)) (hn : 5 + 1 < nL) (hp : nl a4 = true) (kk : Kj g X nL (pc + 2) (a0 :: a1 :: a2 :: a3 :: a4 :: some (.long x) :: none :: r) st M) : Kj g X nL pc (a0 :: a1 :: a2 :: a3 :: a4 :: b0 :: b1 :: r) (.long x :: st) M := kj_lst (i := 5) C hd hn (by
  intro j hj w hw; obtain rfl : j = 4 := by (have : j + 1 = 5 := hj); omega
  simp at hw; rw [hw] at hp; simpa [nl] using hp) kk
theorem kj_ald5 (C : Cx g X cc own nL d) {a0 a1 a2 a3 a4 : Option Value} {r : List (Option Value)} {x : Nat} (hd : decode cc pc = .ok (.aload 5, 2)) (kk : Kj g X nL (pc + 2) (a0 :: a1 :: a2 :: a3 :: a4 :: some (.ref x) :: r) (.ref x :: st) M) : Kj g X nL pc (a0 :: a1 :: a2 :: a3 :: a4 :: some (.ref x) :: r) st M := kj_ald (i := 5) C hd rfl kk
theorem kj_ast5 (C : Cx g X cc own nL d) {a0 a1 a2 a3 a4 b0 : Option Value} {r : List (Option Value)} {x : Nat} (hd : decode cc pc = .ok (.astore 5, 2)) (hn : 5 < nL) (hp : nl a4 = true) (kk : Kj g X nL (pc + 2) (a0 :: a1 :: a2 :: a3 :: a4 :: some (.ref x) :: r) st M) : Kj g X nL pc (a0 :: a1 :: a2 :: a3 :: a4 :: b0 :: r) (.ref x :: st) M := kj_ast (i := 5) C hd hn (by
  intro j hj w hw; obtain rfl : j = 4 := by (have : j + 1 = 5 := hj); omega
  simp at hw; rw [hw] at hp; simpa [nl] using hp) kk
theorem kj_iinc5 (C : Cx g X cc own nL d) {a0 a1 a2 a3 a4 : Option Value} {r : List (Option Value)} {n : Int} {x v : Int32} (hd : decode cc pc = .ok (.iinc 5 n, 3)) (hn : 5 < nL) (hp : nl a4 = true) (hv : x + Int32.ofInt n = v) (kk : Kj g X nL (pc + 3) (a0 :: a1 :: a2 :: a3 :: a4 :: some (.int v) :: r) st M) : Kj g X nL pc (a0 :: a1 :: a2 :: a3 :: a4 :: some (.int x) :: r) st M := kj_iinc (i := 5) C hd rfl hv hn (by
  intro j hj w hw; obtain rfl : j = 4 := by (have : j + 1 = 5 := hj); omega
  simp at hw; rw [hw] at hp; simpa [nl] using hp) kk
theorem kj_ild6 (C : Cx g X cc own nL d) {a0 a1 a2 a3 a4 a5 : Option Value} {r : List (Option Value)} {x : Int32} (hd : decode cc pc = .ok (.iload 6, 2)) (kk : Kj g X nL (pc + 2) (a0 :: a1 :: a2 :: a3 :: a4 :: a5 :: some (.int x) :: r) (.int x :: st) M) : Kj g X nL pc (a0 :: a1 :: a2 :: a3 :: a4 :: a5 :: some (.int x) :: r) st M := kj_ild (i := 6) C hd rfl kk
theorem kj_ist6 (C : Cx g X cc own nL d) {a0 a1 a2 a3 a4 a5 b0 : Option Value} {r : List (Option Value)} {x : Int32} (hd : decode cc pc = .ok (.istore 6, 2)) (hn : 6 < nL) (hp : nl a5 = true) (kk : Kj g X nL (pc + 2) (a0 :: a1 :: a2 :: a3 :: a4 :: a5 :: some (.int x) :: r) st M) : Kj g X nL pc (a0 :: a1 :: a2 :: a3 :: a4 :: a5 :: b0 :: r) (.int x :: st) M := kj_ist (i := 6) C hd hn (by
  intro j hj w hw; obtain rfl : j = 5 := by (have : j + 1 = 6 := hj); omega
  simp at hw; rw [hw] at hp; simpa [nl] using hp) kk
theorem kj_lld6 (C : Cx g X cc own nL d) {a0 a1 a2 a3 a4 a5 : Option Value} {r : List (Option Value)} {x : Int64} (hd : decode cc pc = .ok (.lload 6, 2)) (kk : Kj g X nL (pc + 2) (a0 :: a1 :: a2 :: a3 :: a4 :: a5 :: some (.long x) :: r) (.long x :: st) M) : Kj g X nL pc (a0 :: a1 :: a2 :: a3 :: a4 :: a5 :: some (.long x) :: r) st M := kj_lld (i := 6) C hd rfl kk
theorem kj_lst6 (C : Cx g X cc own nL d) {a0 a1 a2 a3 a4 a5 b0 b1 : Option Value} {r : List (Option Value)} {x : Int64} (hd : decode cc pc = .ok (.lstore 6, 2)) (hn : 6 + 1 < nL) (hp : nl a5 = true) (kk : Kj g X nL (pc + 2) (a0 :: a1 :: a2 :: a3 :: a4 :: a5 :: some (.long x) :: none :: r) st M) : Kj g X nL pc (a0 :: a1 :: a2 :: a3 :: a4 :: a5 :: b0 :: b1 :: r) (.long x :: st) M := kj_lst (i := 6) C hd hn (by
  intro j hj w hw; obtain rfl : j = 5 := by (have : j + 1 = 6 := hj); omega
  simp at hw; rw [hw] at hp; simpa [nl] using hp) kk
theorem kj_ald6 (C : Cx g X cc own nL d) {a0 a1 a2 a3 a4 a5 : Option Value} {r : List (Option Value)} {x : Nat} (hd : decode cc pc = .ok (.aload 6, 2)) (kk : Kj g X nL (pc + 2) (a0 :: a1 :: a2 :: a3 :: a4 :: a5 :: some (.ref x) :: r) (.ref x :: st) M) : Kj g X nL pc (a0 :: a1 :: a2 :: a3 :: a4 :: a5 :: some (.ref x) :: r) st M := kj_ald (i := 6) C hd rfl kk
theorem kj_ast6 (C : Cx g X cc own nL d) {a0 a1 a2 a3 a4 a5 b0 : Option Value} {r : List (Option Value)} {x : Nat} (hd : decode cc pc = .ok (.astore 6, 2)) (hn : 6 < nL) (hp : nl a5 = true) (kk : Kj g X nL (pc + 2) (a0 :: a1 :: a2 :: a3 :: a4 :: a5 :: some (.ref x) :: r) st M) : Kj g X nL pc (a0 :: a1 :: a2 :: a3 :: a4 :: a5 :: b0 :: r) (.ref x :: st) M := kj_ast (i := 6) C hd hn (by
  intro j hj w hw; obtain rfl : j = 5 := by (have : j + 1 = 6 := hj); omega
  simp at hw; rw [hw] at hp; simpa [nl] using hp) kk
theorem kj_iinc6 (C : Cx g X cc own nL d) {a0 a1 a2 a3 a4 a5 : Option Value} {r : List (Option Value)} {n : Int} {x v : Int32} (hd : decode cc pc = .ok (.iinc 6 n, 3)) (hn : 6 < nL) (hp : nl a5 = true) (hv : x + Int32.ofInt n = v) (kk : Kj g X nL (pc + 3) (a0 :: a1 :: a2 :: a3 :: a4 :: a5 :: some (.int v) :: r) st M) : Kj g X nL pc (a0 :: a1 :: a2 :: a3 :: a4 :: a5 :: some (.int x) :: r) st M := kj_iinc (i := 6) C hd rfl hv hn (by
  intro j hj w hw; obtain rfl : j = 5 := by (have : j + 1 = 6 := hj); omega
  simp at hw; rw [hw] at hp; simpa [nl] using hp) kk
theorem kj_ild7 (C : Cx g X cc own nL d) {a0 a1 a2 a3 a4 a5 a6 : Option Value} {r : List (Option Value)} {x : Int32} (hd : decode cc pc = .ok (.iload 7, 2)) (kk : Kj g X nL (pc + 2) (a0 :: a1 :: a2 :: a3 :: a4 :: a5 :: a6 :: some (.int x) :: r) (.int x :: st) M) : Kj g X nL pc (a0 :: a1 :: a2 :: a3 :: a4 :: a5 :: a6 :: some (.int x) :: r) st M := kj_ild (i := 7) C hd rfl kk
theorem kj_ist7 (C : Cx g X cc own nL d) {a0 a1 a2 a3 a4 a5 a6 b0 : Option Value} {r : List (Option Value)} {x : Int32} (hd : decode cc pc = .ok (.istore 7, 2)) (hn : 7 < nL) (hp : nl a6 = true) (kk : Kj g X nL (pc + 2) (a0 :: a1 :: a2 :: a3 :: a4 :: a5 :: a6 :: some (.int x) :: r) st M) : Kj g X nL pc (a0 :: a1 :: a2 :: a3 :: a4 :: a5 :: a6 :: b0 :: r) (.int x :: st) M := kj_ist (i := 7) C hd hn (by
  intro j hj w hw; obtain rfl : j = 6 := by (have : j + 1 = 7 := hj); omega
  simp at hw; rw [hw] at hp; simpa [nl] using hp) kk
theorem kj_lld7 (C : Cx g X cc own nL d) {a0 a1 a2 a3 a4 a5 a6 : Option Value} {r : List (Option Value)} {x : Int64} (hd : decode cc pc = .ok (.lload 7, 2)) (kk : Kj g X nL (pc + 2) (a0 :: a1 :: a2 :: a3 :: a4 :: a5 :: a6 :: some (.long x) :: r) (.long x :: st) M) : Kj g X nL pc (a0 :: a1 :: a2 :: a3 :: a4 :: a5 :: a6 :: some (.long x) :: r) st M := kj_lld (i := 7) C hd rfl kk
theorem kj_lst7 (C : Cx g X cc own nL d) {a0 a1 a2 a3 a4 a5 a6 b0 b1 : Option Value} {r : List (Option Value)} {x : Int64} (hd : decode cc pc = .ok (.lstore 7, 2)) (hn : 7 + 1 < nL) (hp : nl a6 = true) (kk : Kj g X nL (pc + 2) (a0 :: a1 :: a2 :: a3 :: a4 :: a5 :: a6 :: some (.long x) :: none :: r) st M) : Kj g X nL pc (a0 :: a1 :: a2 :: a3 :: a4 :: a5 :: a6 :: b0 :: b1 :: r) (.long x :: st) M := kj_lst (i := 7) C hd hn (by
  intro j hj w hw; obtain rfl : j = 6 := by (have : j + 1 = 7 := hj); omega
  simp at hw; rw [hw] at hp; simpa [nl] using hp) kk
theorem kj_ald7 (C : Cx g X cc own nL d) {a0 a1 a2 a3 a4 a5 a6 : Option Value} {r : List (Option Value)} {x : Nat} (hd : decode cc pc = .ok (.aload 7, 2)) (kk : Kj g X nL (pc + 2) (a0 :: a1 :: a2 :: a3 :: a4 :: a5 :: a6 :: some (.ref x) :: r) (.ref x :: st) M) : Kj g X nL pc (a0 :: a1 :: a2 :: a3 :: a4 :: a5 :: a6 :: some (.ref x) :: r) st M := kj_ald (i := 7) C hd rfl kk
theorem kj_ast7 (C : Cx g X cc own nL d) {a0 a1 a2 a3 a4 a5 a6 b0 : Option Value} {r : List (Option Value)} {x : Nat} (hd : decode cc pc = .ok (.astore 7, 2)) (hn : 7 < nL) (hp : nl a6 = true) (kk : Kj g X nL (pc + 2) (a0 :: a1 :: a2 :: a3 :: a4 :: a5 :: a6 :: some (.ref x) :: r) st M) : Kj g X nL pc (a0 :: a1 :: a2 :: a3 :: a4 :: a5 :: a6 :: b0 :: r) (.ref x :: st) M := kj_ast (i := 7) C hd hn (by
  intro j hj w hw; obtain rfl : j = 6 := by (have : j + 1 = 7 := hj); omega
  simp at hw; rw [hw] at hp; simpa [nl] using hp) kk
theorem kj_iinc7 (C : Cx g X cc own nL d) {a0 a1 a2 a3 a4 a5 a6 : Option Value} {r : List (Option Value)} {n : Int} {x v : Int32} (hd : decode cc pc = .ok (.iinc 7 n, 3)) (hn : 7 < nL) (hp : nl a6 = true) (hv : x + Int32.ofInt n = v) (kk : Kj g X nL (pc + 3) (a0 :: a1 :: a2 :: a3 :: a4 :: a5 :: a6 :: some (.int v) :: r) st M) : Kj g X nL pc (a0 :: a1 :: a2 :: a3 :: a4 :: a5 :: a6 :: some (.int x) :: r) st M := kj_iinc (i := 7) C hd rfl hv hn (by
  intro j hj w hw; obtain rfl : j = 6 := by (have : j + 1 = 7 := hj); omega
  simp at hw; rw [hw] at hp; simpa [nl] using hp) kk
theorem kj_ild8 (C : Cx g X cc own nL d) {a0 a1 a2 a3 a4 a5 a6 a7 : Option Value} {r : List (Option Value)} {x : Int32} (hd : decode cc pc = .ok (.iload 8, 2)) (kk : Kj g X nL (pc + 2) (a0 :: a1 :: a2 :: a3 :: a4 :: a5 :: a6 :: a7 :: some (.int x) :: r) (.int x :: st) M) : Kj g X nL pc (a0 :: a1 :: a2 :: a3 :: a4 :: a5 :: a6 :: a7 :: some (.int x) :: r) st M := kj_ild (i := 8) C hd rfl kk
theorem kj_ist8 (C : Cx g X cc own nL d) {a0 a1 a2 a3 a4 a5 a6 a7 b0 : Option Value} {r : List (Option Value)} {x : Int32} (hd : decode cc pc = .ok (.istore 8, 2)) (hn : 8 < nL) (hp : nl a7 = true) (kk : Kj g X nL (pc + 2) (a0 :: a1 :: a2 :: a3 :: a4 :: a5 :: a6 :: a7 :: some (.int x) :: r) st M) : Kj g X nL pc (a0 :: a1 :: a2 :: a3 :: a4 :: a5 :: a6 :: a7 :: b0 :: r) (.int x :: st) M := kj_ist (i := 8) C hd hn (by
  intro j hj w hw; obtain rfl : j = 7 := by (have : j + 1 = 8 := hj); omega
  simp at hw; rw [hw] at hp; simpa [nl] using hp) kk
theorem kj_lld8 (C : Cx g X cc own nL d) {a0 a1 a2 a3 a4 a5 a6 a7 : Option Value} {r : List (Option Value)} {x : Int64} (hd : decode cc pc = .ok (.lload 8, 2)) (kk : Kj g X nL (pc + 2) (a0 :: a1 :: a2 :: a3 :: a4 :: a5 :: a6 :: a7 :: some (.long x) :: r) (.long x :: st) M) : Kj g X nL pc (a0 :: a1 :: a2 :: a3 :: a4 :: a5 :: a6 :: a7 :: some (.long x) :: r) st M := kj_lld (i := 8) C hd rfl kk
theorem kj_lst8 (C : Cx g X cc own nL d) {a0 a1 a2 a3 a4 a5 a6 a7 b0 b1 : Option Value} {r : List (Option Value)} {x : Int64} (hd : decode cc pc = .ok (.lstore 8, 2)) (hn : 8 + 1 < nL) (hp : nl a7 = true) (kk : Kj g X nL (pc + 2) (a0 :: a1 :: a2 :: a3 :: a4 :: a5 :: a6 :: a7 :: some (.long x) :: none :: r) st M) : Kj g X nL pc (a0 :: a1 :: a2 :: a3 :: a4 :: a5 :: a6 :: a7 :: b0 :: b1 :: r) (.long x :: st) M := kj_lst (i := 8) C hd hn (by
  intro j hj w hw; obtain rfl : j = 7 := by (have : j + 1 = 8 := hj); omega
  simp at hw; rw [hw] at hp; simpa [nl] using hp) kk
theorem kj_ald8 (C : Cx g X cc own nL d) {a0 a1 a2 a3 a4 a5 a6 a7 : Option Value} {r : List (Option Value)} {x : Nat} (hd : decode cc pc = .ok (.aload 8, 2)) (kk : Kj g X nL (pc + 2) (a0 :: a1 :: a2 :: a3 :: a4 :: a5 :: a6 :: a7 :: some (.ref x) :: r) (.ref x :: st) M) : Kj g X nL pc (a0 :: a1 :: a2 :: a3 :: a4 :: a5 :: a6 :: a7 :: some (.ref x) :: r) st M := kj_ald (i := 8) C hd rfl kk
theorem kj_ast8 (C : Cx g X cc own nL d) {a0 a1 a2 a3 a4 a5 a6 a7 b0 : Option Value} {r : List (Option Value)} {x : Nat} (hd : decode cc pc = .ok (.astore 8, 2)) (hn : 8 < nL) (hp : nl a7 = true) (kk : Kj g X nL (pc + 2) (a0 :: a1 :: a2 :: a3 :: a4 :: a5 :: a6 :: a7 :: some (.ref x) :: r) st M) : Kj g X nL pc (a0 :: a1 :: a2 :: a3 :: a4 :: a5 :: a6 :: a7 :: b0 :: r) (.ref x :: st) M := kj_ast (i := 8) C hd hn (by
  intro j hj w hw; obtain rfl : j = 7 := by (have : j + 1 = 8 := hj); omega
  simp at hw; rw [hw] at hp; simpa [nl] using hp) kk
theorem kj_iinc8 (C : Cx g X cc own nL d) {a0 a1 a2 a3 a4 a5 a6 a7 : Option Value} {r : List (Option Value)} {n : Int} {x v : Int32} (hd : decode cc pc = .ok (.iinc 8 n, 3)) (hn : 8 < nL) (hp : nl a7 = true) (hv : x + Int32.ofInt n = v) (kk : Kj g X nL (pc + 3) (a0 :: a1 :: a2 :: a3 :: a4 :: a5 :: a6 :: a7 :: some (.int v) :: r) st M) : Kj g X nL pc (a0 :: a1 :: a2 :: a3 :: a4 :: a5 :: a6 :: a7 :: some (.int x) :: r) st M := kj_iinc (i := 8) C hd rfl hv hn (by
  intro j hj w hw; obtain rfl : j = 7 := by (have : j + 1 = 8 := hj); omega
  simp at hw; rw [hw] at hp; simpa [nl] using hp) kk
theorem kj_ild9 (C : Cx g X cc own nL d) {a0 a1 a2 a3 a4 a5 a6 a7 a8 : Option Value} {r : List (Option Value)} {x : Int32} (hd : decode cc pc = .ok (.iload 9, 2)) (kk : Kj g X nL (pc + 2) (a0 :: a1 :: a2 :: a3 :: a4 :: a5 :: a6 :: a7 :: a8 :: some (.int x) :: r) (.int x :: st) M) : Kj g X nL pc (a0 :: a1 :: a2 :: a3 :: a4 :: a5 :: a6 :: a7 :: a8 :: some (.int x) :: r) st M := kj_ild (i := 9) C hd rfl kk
theorem kj_ist9 (C : Cx g X cc own nL d) {a0 a1 a2 a3 a4 a5 a6 a7 a8 b0 : Option Value} {r : List (Option Value)} {x : Int32} (hd : decode cc pc = .ok (.istore 9, 2)) (hn : 9 < nL) (hp : nl a8 = true) (kk : Kj g X nL (pc + 2) (a0 :: a1 :: a2 :: a3 :: a4 :: a5 :: a6 :: a7 :: a8 :: some (.int x) :: r) st M) : Kj g X nL pc (a0 :: a1 :: a2 :: a3 :: a4 :: a5 :: a6 :: a7 :: a8 :: b0 :: r) (.int x :: st) M := kj_ist (i := 9) C hd hn (by
  intro j hj w hw; obtain rfl : j = 8 := by (have : j + 1 = 9 := hj); omega
  simp at hw; rw [hw] at hp; simpa [nl] using hp) kk
theorem kj_lld9 (C : Cx g X cc own nL d) {a0 a1 a2 a3 a4 a5 a6 a7 a8 : Option Value} {r : List (Option Value)} {x : Int64} (hd : decode cc pc = .ok (.lload 9, 2)) (kk : Kj g X nL (pc + 2) (a0 :: a1 :: a2 :: a3 :: a4 :: a5 :: a6 :: a7 :: a8 :: some (.long x) :: r) (.long x :: st) M) : Kj g X nL pc (a0 :: a1 :: a2 :: a3 :: a4 :: a5 :: a6 :: a7 :: a8 :: some (.long x) :: r) st M := kj_lld (i := 9) C hd rfl kk
theorem kj_lst9 (C : Cx g X cc own nL d) {a0 a1 a2 a3 a4 a5 a6 a7 a8 b0 b1 : Option Value} {r : List (Option Value)} {x : Int64} (hd : decode cc pc = .ok (.lstore 9, 2)) (hn : 9 + 1 < nL) (hp : nl a8 = true) (kk : Kj g X nL (pc + 2) (a0 :: a1 :: a2 :: a3 :: a4 :: a5 :: a6 :: a7 :: a8 :: some (.long x) :: none :: r) st M) : Kj g X nL pc (a0 :: a1 :: a2 :: a3 :: a4 :: a5 :: a6 :: a7 :: a8 :: b0 :: b1 :: r) (.long x :: st) M := kj_lst (i := 9) C hd hn (by
  intro j hj w hw; obtain rfl : j = 8 := by (have : j + 1 = 9 := hj); omega
  simp at hw; rw [hw] at hp; simpa [nl] using hp) kk
theorem kj_ald9 (C : Cx g X cc own nL d) {a0 a1 a2 a3 a4 a5 a6 a7 a8 : Option Value} {r : List (Option Value)} {x : Nat} (hd : decode cc pc = .ok (.aload 9, 2)) (kk : Kj g X nL (pc + 2) (a0 :: a1 :: a2 :: a3 :: a4 :: a5 :: a6 :: a7 :: a8 :: some (.ref x) :: r) (.ref x :: st) M) : Kj g X nL pc (a0 :: a1 :: a2 :: a3 :: a4 :: a5 :: a6 :: a7 :: a8 :: some (.ref x) :: r) st M := kj_ald (i := 9) C hd rfl kk
theorem kj_ast9 (C : Cx g X cc own nL d) {a0 a1 a2 a3 a4 a5 a6 a7 a8 b0 : Option Value} {r : List (Option Value)} {x : Nat} (hd : decode cc pc = .ok (.astore 9, 2)) (hn : 9 < nL) (hp : nl a8 = true) (kk : Kj g X nL (pc + 2) (a0 :: a1 :: a2 :: a3 :: a4 :: a5 :: a6 :: a7 :: a8 :: some (.ref x) :: r) st M) : Kj g X nL pc (a0 :: a1 :: a2 :: a3 :: a4 :: a5 :: a6 :: a7 :: a8 :: b0 :: r) (.ref x :: st) M := kj_ast (i := 9) C hd hn (by
  intro j hj w hw; obtain rfl : j = 8 := by (have : j + 1 = 9 := hj); omega
  simp at hw; rw [hw] at hp; simpa [nl] using hp) kk
theorem kj_iinc9 (C : Cx g X cc own nL d) {a0 a1 a2 a3 a4 a5 a6 a7 a8 : Option Value} {r : List (Option Value)} {n : Int} {x v : Int32} (hd : decode cc pc = .ok (.iinc 9 n, 3)) (hn : 9 < nL) (hp : nl a8 = true) (hv : x + Int32.ofInt n = v) (kk : Kj g X nL (pc + 3) (a0 :: a1 :: a2 :: a3 :: a4 :: a5 :: a6 :: a7 :: a8 :: some (.int v) :: r) st M) : Kj g X nL pc (a0 :: a1 :: a2 :: a3 :: a4 :: a5 :: a6 :: a7 :: a8 :: some (.int x) :: r) st M := kj_iinc (i := 9) C hd rfl hv hn (by
  intro j hj w hw; obtain rfl : j = 8 := by (have : j + 1 = 9 := hj); omega
  simp at hw; rw [hw] at hp; simpa [nl] using hp) kk
theorem kj_ild10 (C : Cx g X cc own nL d) {a0 a1 a2 a3 a4 a5 a6 a7 a8 a9 : Option Value} {r : List (Option Value)} {x : Int32} (hd : decode cc pc = .ok (.iload 10, 2)) (kk : Kj g X nL (pc + 2) (a0 :: a1 :: a2 :: a3 :: a4 :: a5 :: a6 :: a7 :: a8 :: a9 :: some (.int x) :: r) (.int x :: st) M) : Kj g X nL pc (a0 :: a1 :: a2 :: a3 :: a4 :: a5 :: a6 :: a7 :: a8 :: a9 :: some (.int x) :: r) st M := kj_ild (i := 10) C hd rfl kk
theorem kj_ist10 (C : Cx g X cc own nL d) {a0 a1 a2 a3 a4 a5 a6 a7 a8 a9 b0 : Option Value} {r : List (Option Value)} {x : Int32} (hd : decode cc pc = .ok (.istore 10, 2)) (hn : 10 < nL) (hp : nl a9 = true) (kk : Kj g X nL (pc + 2) (a0 :: a1 :: a2 :: a3 :: a4 :: a5 :: a6 :: a7 :: a8 :: a9 :: some (.int x) :: r) st M) : Kj g X nL pc (a0 :: a1 :: a2 :: a3 :: a4 :: a5 :: a6 :: a7 :: a8 :: a9 :: b0 :: r) (.int x :: st) M := kj_ist (i := 10) C hd hn (by
  intro j hj w hw; obtain rfl : j = 9 := by (have : j + 1 = 10 := hj); omega
  simp at hw; rw [hw] at hp; simpa [nl] using hp) kk
theorem kj_lld10 (C : Cx g X cc own nL d) {a0 a1 a2 a3 a4 a5 a6 a7 a8 a9 : Option Value} {r : List (Option Value)} {x : Int64} (hd : decode cc pc = .ok (.lload 10, 2)) (kk : Kj g X nL (pc + 2) (a0 :: a1 :: a2 :: a3 :: a4 :: a5 :: a6 :: a7 :: a8 :: a9 :: some (.long x) :: r) (.long x :: st) M) : Kj g X nL pc (a0 :: a1 :: a2 :: a3 :: a4 :: a5 :: a6 :: a7 :: a8 :: a9 :: some (.long x) :: r) st M := kj_lld (i := 10) C hd rfl kk
theorem kj_lst10 (C : Cx g X cc own nL d) {a0 a1 a2 a3 a4 a5 a6 a7 a8 a9 b0 b1 : Option Value} {r : List (Option Value)} {x : Int64} (hd : decode cc pc = .ok (.lstore 10, 2)) (hn : 10 + 1 < nL) (hp : nl a9 = true) (kk : Kj g X nL (pc + 2) (a0 :: a1 :: a2 :: a3 :: a4 :: a5 :: a6 :: a7 :: a8 :: a9 :: some (.long x) :: none :: r) st M) : Kj g X nL pc (a0 :: a1 :: a2 :: a3 :: a4 :: a5 :: a6 :: a7 :: a8 :: a9 :: b0 :: b1 :: r) (.long x :: st) M := kj_lst (i := 10) C hd hn (by
  intro j hj w hw; obtain rfl : j = 9 := by (have : j + 1 = 10 := hj); omega
  simp at hw; rw [hw] at hp; simpa [nl] using hp) kk
theorem kj_ald10 (C : Cx g X cc own nL d) {a0 a1 a2 a3 a4 a5 a6 a7 a8 a9 : Option Value} {r : List (Option Value)} {x : Nat} (hd : decode cc pc = .ok (.aload 10, 2)) (kk : Kj g X nL (pc + 2) (a0 :: a1 :: a2 :: a3 :: a4 :: a5 :: a6 :: a7 :: a8 :: a9 :: some (.ref x) :: r) (.ref x :: st) M) : Kj g X nL pc (a0 :: a1 :: a2 :: a3 :: a4 :: a5 :: a6 :: a7 :: a8 :: a9 :: some (.ref x) :: r) st M := kj_ald (i := 10) C hd rfl kk
theorem kj_ast10 (C : Cx g X cc own nL d) {a0 a1 a2 a3 a4 a5 a6 a7 a8 a9 b0 : Option Value} {r : List (Option Value)} {x : Nat} (hd : decode cc pc = .ok (.astore 10, 2)) (hn : 10 < nL) (hp : nl a9 = true) (kk : Kj g X nL (pc + 2) (a0 :: a1 :: a2 :: a3 :: a4 :: a5 :: a6 :: a7 :: a8 :: a9 :: some (.ref x) :: r) st M) : Kj g X nL pc (a0 :: a1 :: a2 :: a3 :: a4 :: a5 :: a6 :: a7 :: a8 :: a9 :: b0 :: r) (.ref x :: st) M := kj_ast (i := 10) C hd hn (by
  intro j hj w hw; obtain rfl : j = 9 := by (have : j + 1 = 10 := hj); omega
  simp at hw; rw [hw] at hp; simpa [nl] using hp) kk
theorem kj_iinc10 (C : Cx g X cc own nL d) {a0 a1 a2 a3 a4 a5 a6 a7 a8 a9 : Option Value} {r : List (Option Value)} {n : Int} {x v : Int32} (hd : decode cc pc = .ok (.iinc 10 n, 3)) (hn : 10 < nL) (hp : nl a9 = true) (hv : x + Int32.ofInt n = v) (kk : Kj g X nL (pc + 3) (a0 :: a1 :: a2 :: a3 :: a4 :: a5 :: a6 :: a7 :: a8 :: a9 :: some (.int v) :: r) st M) : Kj g X nL pc (a0 :: a1 :: a2 :: a3 :: a4 :: a5 :: a6 :: a7 :: a8 :: a9 :: some (.int x) :: r) st M := kj_iinc (i := 10) C hd rfl hv hn (by
  intro j hj w hw; obtain rfl : j = 9 := by (have : j + 1 = 10 := hj); omega
  simp at hw; rw [hw] at hp; simpa [nl] using hp) kk
theorem kj_ild11 (C : Cx g X cc own nL d) {a0 a1 a2 a3 a4 a5 a6 a7 a8 a9 a10 : Option Value} {r : List (Option Value)} {x : Int32} (hd : decode cc pc = .ok (.iload 11, 2)) (kk : Kj g X nL (pc + 2) (a0 :: a1 :: a2 :: a3 :: a4 :: a5 :: a6 :: a7 :: a8 :: a9 :: a10 :: some (.int x) :: r) (.int x :: st) M) : Kj g X nL pc (a0 :: a1 :: a2 :: a3 :: a4 :: a5 :: a6 :: a7 :: a8 :: a9 :: a10 :: some (.int x) :: r) st M := kj_ild (i := 11) C hd rfl kk
theorem kj_ist11 (C : Cx g X cc own nL d) {a0 a1 a2 a3 a4 a5 a6 a7 a8 a9 a10 b0 : Option Value} {r : List (Option Value)} {x : Int32} (hd : decode cc pc = .ok (.istore 11, 2)) (hn : 11 < nL) (hp : nl a10 = true) (kk : Kj g X nL (pc + 2) (a0 :: a1 :: a2 :: a3 :: a4 :: a5 :: a6 :: a7 :: a8 :: a9 :: a10 :: some (.int x) :: r) st M) : Kj g X nL pc (a0 :: a1 :: a2 :: a3 :: a4 :: a5 :: a6 :: a7 :: a8 :: a9 :: a10 :: b0 :: r) (.int x :: st) M := kj_ist (i := 11) C hd hn (by
  intro j hj w hw; obtain rfl : j = 10 := by (have : j + 1 = 11 := hj); omega
  simp at hw; rw [hw] at hp; simpa [nl] using hp) kk
theorem kj_lld11 (C : Cx g X cc own nL d) {a0 a1 a2 a3 a4 a5 a6 a7 a8 a9 a10 : Option Value} {r : List (Option Value)} {x : Int64} (hd : decode cc pc = .ok (.lload 11, 2)) (kk : Kj g X nL (pc + 2) (a0 :: a1 :: a2 :: a3 :: a4 :: a5 :: a6 :: a7 :: a8 :: a9 :: a10 :: some (.long x) :: r) (.long x :: st) M) : Kj g X nL pc (a0 :: a1 :: a2 :: a3 :: a4 :: a5 :: a6 :: a7 :: a8 :: a9 :: a10 :: some (.long x) :: r) st M := kj_lld (i := 11) C hd rfl kk
theorem kj_lst11 (C : Cx g X cc own nL d) {a0 a1 a2 a3 a4 a5 a6 a7 a8 a9 a10 b0 b1 : Option Value} {r : List (Option Value)} {x : Int64} (hd : decode cc pc = .ok (.lstore 11, 2)) (hn : 11 + 1 < nL) (hp : nl a10 = true) (kk : Kj g X nL (pc + 2) (a0 :: a1 :: a2 :: a3 :: a4 :: a5 :: a6 :: a7 :: a8 :: a9 :: a10 :: some (.long x) :: none :: r) st M) : Kj g X nL pc (a0 :: a1 :: a2 :: a3 :: a4 :: a5 :: a6 :: a7 :: a8 :: a9 :: a10 :: b0 :: b1 :: r) (.long x :: st) M := kj_lst (i := 11) C hd hn (by
  intro j hj w hw; obtain rfl : j = 10 := by (have : j + 1 = 11 := hj); omega
  simp at hw; rw [hw] at hp; simpa [nl] using hp) kk
theorem kj_ald11 (C : Cx g X cc own nL d) {a0 a1 a2 a3 a4 a5 a6 a7 a8 a9 a10 : Option Value} {r : List (Option Value)} {x : Nat} (hd : decode cc pc = .ok (.aload 11, 2)) (kk : Kj g X nL (pc + 2) (a0 :: a1 :: a2 :: a3 :: a4 :: a5 :: a6 :: a7 :: a8 :: a9 :: a10 :: some (.ref x) :: r) (.ref x :: st) M) : Kj g X nL pc (a0 :: a1 :: a2 :: a3 :: a4 :: a5 :: a6 :: a7 :: a8 :: a9 :: a10 :: some (.ref x) :: r) st M := kj_ald (i := 11) C hd rfl kk
theorem kj_ast11 (C : Cx g X cc own nL d) {a0 a1 a2 a3 a4 a5 a6 a7 a8 a9 a10 b0 : Option Value} {r : List (Option Value)} {x : Nat} (hd : decode cc pc = .ok (.astore 11, 2)) (hn : 11 < nL) (hp : nl a10 = true) (kk : Kj g X nL (pc + 2) (a0 :: a1 :: a2 :: a3 :: a4 :: a5 :: a6 :: a7 :: a8 :: a9 :: a10 :: some (.ref x) :: r) st M) : Kj g X nL pc (a0 :: a1 :: a2 :: a3 :: a4 :: a5 :: a6 :: a7 :: a8 :: a9 :: a10 :: b0 :: r) (.ref x :: st) M := kj_ast (i := 11) C hd hn (by
  intro j hj w hw; obtain rfl : j = 10 := by (have : j + 1 = 11 := hj); omega
  simp at hw; rw [hw] at hp; simpa [nl] using hp) kk
theorem kj_iinc11 (C : Cx g X cc own nL d) {a0 a1 a2 a3 a4 a5 a6 a7 a8 a9 a10 : Option Value} {r : List (Option Value)} {n : Int} {x v : Int32} (hd : decode cc pc = .ok (.iinc 11 n, 3)) (hn : 11 < nL) (hp : nl a10 = true) (hv : x + Int32.ofInt n = v) (kk : Kj g X nL (pc + 3) (a0 :: a1 :: a2 :: a3 :: a4 :: a5 :: a6 :: a7 :: a8 :: a9 :: a10 :: some (.int v) :: r) st M) : Kj g X nL pc (a0 :: a1 :: a2 :: a3 :: a4 :: a5 :: a6 :: a7 :: a8 :: a9 :: a10 :: some (.int x) :: r) st M := kj_iinc (i := 11) C hd rfl hv hn (by
  intro j hj w hw; obtain rfl : j = 10 := by (have : j + 1 = 11 := hj); omega
  simp at hw; rw [hw] at hp; simpa [nl] using hp) kk
theorem kj_ild12 (C : Cx g X cc own nL d) {a0 a1 a2 a3 a4 a5 a6 a7 a8 a9 a10 a11 : Option Value} {r : List (Option Value)} {x : Int32} (hd : decode cc pc = .ok (.iload 12, 2)) (kk : Kj g X nL (pc + 2) (a0 :: a1 :: a2 :: a3 :: a4 :: a5 :: a6 :: a7 :: a8 :: a9 :: a10 :: a11 :: some (.int x) :: r) (.int x :: st) M) : Kj g X nL pc (a0 :: a1 :: a2 :: a3 :: a4 :: a5 :: a6 :: a7 :: a8 :: a9 :: a10 :: a11 :: some (.int x) :: r) st M := kj_ild (i := 12) C hd rfl kk
theorem kj_ist12 (C : Cx g X cc own nL d) {a0 a1 a2 a3 a4 a5 a6 a7 a8 a9 a10 a11 b0 : Option Value} {r : List (Option Value)} {x : Int32} (hd : decode cc pc = .ok (.istore 12, 2)) (hn : 12 < nL) (hp : nl a11 = true) (kk : Kj g X nL (pc + 2) (a0 :: a1 :: a2 :: a3 :: a4 :: a5 :: a6 :: a7 :: a8 :: a9 :: a10 :: a11 :: some (.int x) :: r) st M) : Kj g X nL pc (a0 :: a1 :: a2 :: a3 :: a4 :: a5 :: a6 :: a7 :: a8 :: a9 :: a10 :: a11 :: b0 :: r) (.int x :: st) M := kj_ist (i := 12) C hd hn (by
  intro j hj w hw; obtain rfl : j = 11 := by (have : j + 1 = 12 := hj); omega
  simp at hw; rw [hw] at hp; simpa [nl] using hp) kk
theorem kj_lld12 (C : Cx g X cc own nL d) {a0 a1 a2 a3 a4 a5 a6 a7 a8 a9 a10 a11 : Option Value} {r : List (Option Value)} {x : Int64} (hd : decode cc pc = .ok (.lload 12, 2)) (kk : Kj g X nL (pc + 2) (a0 :: a1 :: a2 :: a3 :: a4 :: a5 :: a6 :: a7 :: a8 :: a9 :: a10 :: a11 :: some (.long x) :: r) (.long x :: st) M) : Kj g X nL pc (a0 :: a1 :: a2 :: a3 :: a4 :: a5 :: a6 :: a7 :: a8 :: a9 :: a10 :: a11 :: some (.long x) :: r) st M := kj_lld (i := 12) C hd rfl kk
theorem kj_lst12 (C : Cx g X cc own nL d) {a0 a1 a2 a3 a4 a5 a6 a7 a8 a9 a10 a11 b0 b1 : Option Value} {r : List (Option Value)} {x : Int64} (hd : decode cc pc = .ok (.lstore 12, 2)) (hn : 12 + 1 < nL) (hp : nl a11 = true) (kk : Kj g X nL (pc + 2) (a0 :: a1 :: a2 :: a3 :: a4 :: a5 :: a6 :: a7 :: a8 :: a9 :: a10 :: a11 :: some (.long x) :: none :: r) st M) : Kj g X nL pc (a0 :: a1 :: a2 :: a3 :: a4 :: a5 :: a6 :: a7 :: a8 :: a9 :: a10 :: a11 :: b0 :: b1 :: r) (.long x :: st) M := kj_lst (i := 12) C hd hn (by
  intro j hj w hw; obtain rfl : j = 11 := by (have : j + 1 = 12 := hj); omega
  simp at hw; rw [hw] at hp; simpa [nl] using hp) kk
theorem kj_ald12 (C : Cx g X cc own nL d) {a0 a1 a2 a3 a4 a5 a6 a7 a8 a9 a10 a11 : Option Value} {r : List (Option Value)} {x : Nat} (hd : decode cc pc = .ok (.aload 12, 2)) (kk : Kj g X nL (pc + 2) (a0 :: a1 :: a2 :: a3 :: a4 :: a5 :: a6 :: a7 :: a8 :: a9 :: a10 :: a11 :: some (.ref x) :: r) (.ref x :: st) M) : Kj g X nL pc (a0 :: a1 :: a2 :: a3 :: a4 :: a5 :: a6 :: a7 :: a8 :: a9 :: a10 :: a11 :: some (.ref x) :: r) st M := kj_ald (i := 12) C hd rfl kk
theorem kj_ast12 (C : Cx g X cc own nL d) {a0 a1 a2 a3 a4 a5 a6 a7 a8 a9 a10 a11 b0 : Option Value} {r : List (Option Value)} {x : Nat} (hd : decode cc pc = .ok (.astore 12, 2)) (hn : 12 < nL) (hp : nl a11 = true) (kk : Kj g X nL (pc + 2) (a0 :: a1 :: a2 :: a3 :: a4 :: a5 :: a6 :: a7 :: a8 :: a9 :: a10 :: a11 :: some (.ref x) :: r) st M) : Kj g X nL pc (a0 :: a1 :: a2 :: a3 :: a4 :: a5 :: a6 :: a7 :: a8 :: a9 :: a10 :: a11 :: b0 :: r) (.ref x :: st) M := kj_ast (i := 12) C hd hn (by
  intro j hj w hw; obtain rfl : j = 11 := by (have : j + 1 = 12 := hj); omega
  simp at hw; rw [hw] at hp; simpa [nl] using hp) kk
theorem kj_iinc12 (C : Cx g X cc own nL d) {a0 a1 a2 a3 a4 a5 a6 a7 a8 a9 a10 a11 : Option Value} {r : List (Option Value)} {n : Int} {x v : Int32} (hd : decode cc pc = .ok (.iinc 12 n, 3)) (hn : 12 < nL) (hp : nl a11 = true) (hv : x + Int32.ofInt n = v) (kk : Kj g X nL (pc + 3) (a0 :: a1 :: a2 :: a3 :: a4 :: a5 :: a6 :: a7 :: a8 :: a9 :: a10 :: a11 :: some (.int v) :: r) st M) : Kj g X nL pc (a0 :: a1 :: a2 :: a3 :: a4 :: a5 :: a6 :: a7 :: a8 :: a9 :: a10 :: a11 :: some (.int x) :: r) st M := kj_iinc (i := 12) C hd rfl hv hn (by
  intro j hj w hw; obtain rfl : j = 11 := by (have : j + 1 = 12 := hj); omega
  simp at hw; rw [hw] at hp; simpa [nl] using hp) kk
theorem kj_ild13 (C : Cx g X cc own nL d) {a0 a1 a2 a3 a4 a5 a6 a7 a8 a9 a10 a11 a12 : Option Value} {r : List (Option Value)} {x : Int32} (hd : decode cc pc = .ok (.iload 13, 2)) (kk : Kj g X nL (pc + 2) (a0 :: a1 :: a2 :: a3 :: a4 :: a5 :: a6 :: a7 :: a8 :: a9 :: a10 :: a11 :: a12 :: some (.int x) :: r) (.int x :: st) M) : Kj g X nL pc (a0 :: a1 :: a2 :: a3 :: a4 :: a5 :: a6 :: a7 :: a8 :: a9 :: a10 :: a11 :: a12 :: some (.int x) :: r) st M := kj_ild (i := 13) C hd rfl kk
theorem kj_ist13 (C : Cx g X cc own nL d) {a0 a1 a2 a3 a4 a5 a6 a7 a8 a9 a10 a11 a12 b0 : Option Value} {r : List (Option Value)} {x : Int32} (hd : decode cc pc = .ok (.istore 13, 2)) (hn : 13 < nL) (hp : nl a12 = true) (kk : Kj g X nL (pc + 2) (a0 :: a1 :: a2 :: a3 :: a4 :: a5 :: a6 :: a7 :: a8 :: a9 :: a10 :: a11 :: a12 :: some (.int x) :: r) st M) : Kj g X nL pc (a0 :: a1 :: a2 :: a3 :: a4 :: a5 :: a6 :: a7 :: a8 :: a9 :: a10 :: a11 :: a12 :: b0 :: r) (.int x :: st) M := kj_ist (i := 13) C hd hn (by
  intro j hj w hw; obtain rfl : j = 12 := by (have : j + 1 = 13 := hj); omega
  simp at hw; rw [hw] at hp; simpa [nl] using hp) kk
theorem kj_lld13 (C : Cx g X cc own nL d) {a0 a1 a2 a3 a4 a5 a6 a7 a8 a9 a10 a11 a12 : Option Value} {r : List (Option Value)} {x : Int64} (hd : decode cc pc = .ok (.lload 13, 2)) (kk : Kj g X nL (pc + 2) (a0 :: a1 :: a2 :: a3 :: a4 :: a5 :: a6 :: a7 :: a8 :: a9 :: a10 :: a11 :: a12 :: some (.long x) :: r) (.long x :: st) M) : Kj g X nL pc (a0 :: a1 :: a2 :: a3 :: a4 :: a5 :: a6 :: a7 :: a8 :: a9 :: a10 :: a11 :: a12 :: some (.long x) :: r) st M := kj_lld (i := 13) C hd rfl kk
theorem kj_lst13 (C : Cx g X cc own nL d) {a0 a1 a2 a3 a4 a5 a6 a7 a8 a9 a10 a11 a12 b0 b1 : Option Value} {r : List (Option Value)} {x : Int64} (hd : decode cc pc = .ok (.lstore 13, 2)) (hn : 13 + 1 < nL) (hp : nl a12 = true) (kk : Kj g X nL (pc + 2) (a0 :: a1 :: a2 :: a3 :: a4 :: a5 :: a6 :: a7 :: a8 :: a9 :: a10 :: a11 :: a12 :: some (.long x) :: none :: r) st M) : Kj g X nL pc (a0 :: a1 :: a2 :: a3 :: a4 :: a5 :: a6 :: a7 :: a8 :: a9 :: a10 :: a11 :: a12 :: b0 :: b1 :: r) (.long x :: st) M := kj_lst (i := 13) C hd hn (by
  intro j hj w hw; obtain rfl : j = 12 := by (have : j + 1 = 13 := hj); omega
  simp at hw; rw [hw] at hp; simpa [nl] using hp) kk
theorem kj_ald13 (C : Cx g X cc own nL d) {a0 a1 a2 a3 a4 a5 a6 a7 a8 a9 a10 a11 a12 : Option Value} {r : List (Option Value)} {x : Nat} (hd : decode cc pc = .ok (.aload 13, 2)) (kk : Kj g X nL (pc + 2) (a0 :: a1 :: a2 :: a3 :: a4 :: a5 :: a6 :: a7 :: a8 :: a9 :: a10 :: a11 :: a12 :: some (.ref x) :: r) (.ref x :: st) M) : Kj g X nL pc (a0 :: a1 :: a2 :: a3 :: a4 :: a5 :: a6 :: a7 :: a8 :: a9 :: a10 :: a11 :: a12 :: some (.ref x) :: r) st M := kj_ald (i := 13) C hd rfl kk
theorem kj_ast13 (C : Cx g X cc own nL d) {a0 a1 a2 a3 a4 a5 a6 a7 a8 a9 a10 a11 a12 b0 : Option Value} {r : List (Option Value)} {x : Nat} (hd : decode cc pc = .ok (.astore 13, 2)) (hn : 13 < nL) (hp : nl a12 = true) (kk : Kj g X nL (pc + 2) (a0 :: a1 :: a2 :: a3 :: a4 :: a5 :: a6 :: a7 :: a8 :: a9 :: a10 :: a11 :: a12 :: some (.ref x) :: r) st M) : Kj g X nL pc (a0 :: a1 :: a2 :: a3 :: a4 :: a5 :: a6 :: a7 :: a8 :: a9 :: a10 :: a11 :: a12 :: b0 :: r) (.ref x :: st) M := kj_ast (i := 13) C hd hn (by
  intro j hj w hw; obtain rfl : j = 12 := by (have : j + 1 = 13 := hj); omega
  simp at hw; rw [hw] at hp; simpa [nl] using hp) kk
theorem kj_iinc13 (C : Cx g X cc own nL d) {a0 a1 a2 a3 a4 a5 a6 a7 a8 a9 a10 a11 a12 : Option Value} {r : List (Option Value)} {n : Int} {x v : Int32} (hd : decode cc pc = .ok (.iinc 13 n, 3)) (hn : 13 < nL) (hp : nl a12 = true) (hv : x + Int32.ofInt n = v) (kk : Kj g X nL (pc + 3) (a0 :: a1 :: a2 :: a3 :: a4 :: a5 :: a6 :: a7 :: a8 :: a9 :: a10 :: a11 :: a12 :: some (.int v) :: r) st M) : Kj g X nL pc (a0 :: a1 :: a2 :: a3 :: a4 :: a5 :: a6 :: a7 :: a8 :: a9 :: a10 :: a11 :: a12 :: some (.int x) :: r) st M := kj_iinc (i := 13) C hd rfl hv hn (by
  intro j hj w hw; obtain rfl : j = 12 := by (have : j + 1 = 13 := hj); omega
  simp at hw; rw [hw] at hp; simpa [nl] using hp) kk
theorem kj_ild14 (C : Cx g X cc own nL d) {a0 a1 a2 a3 a4 a5 a6 a7 a8 a9 a10 a11 a12 a13 : Option Value} {r : List (Option Value)} {x : Int32} (hd : decode cc pc = .ok (.iload 14, 2)) (kk : Kj g X nL (pc + 2) (a0 :: a1 :: a2 :: a3 :: a4 :: a5 :: a6 :: a7 :: a8 :: a9 :: a10 :: a11 :: a12 :: a13 :: some (.int x) :: r) (.int x :: st) M) : Kj g X nL pc (a0 :: a1 :: a2 :: a3 :: a4 :: a5 :: a6 :: a7 :: a8 :: a9 :: a10 :: a11 :: a12 :: a13 :: some (.int x) :: r) st M := kj_ild (i := 14) C hd rfl kk
theorem kj_ist14 (C : Cx g X cc own nL d) {a0 a1 a2 a3 a4 a5 a6 a7 a8 a9 a10 a11 a12 a13 b0 : Option Value} {r : List (Option Value)} {x : Int32} (hd : decode cc pc = .ok (.istore 14, 2)) (hn : 14 < nL) (hp : nl a13 = true) (kk : Kj g X nL (pc + 2) (a0 :: a1 :: a2 :: a3 :: a4 :: a5 :: a6 :: a7 :: a8 :: a9 :: a10 :: a11 :: a12 :: a13 :: some (.int x) :: r) st M) : Kj g X nL pc (a0 :: a1 :: a2 :: a3 :: a4 :: a5 :: a6 :: a7 :: a8 :: a9 :: a10 :: a11 :: a12 :: a13 :: b0 :: r) (.int x :: st) M := kj_ist (i := 14) C hd hn (by
  intro j hj w hw; obtain rfl : j = 13 := by (have : j + 1 = 14 := hj); omega
  simp at hw; rw [hw] at hp; simpa [nl] using hp) kk
theorem kj_lld14 (C : Cx g X cc own nL d) {a0 a1 a2 a3 a4 a5 a6 a7 a8 a9 a10 a11 a12 a13 : Option Value} {r : List (Option Value)} {x : Int64} (hd : decode cc pc = .ok (.lload 14, 2)) (kk : Kj g X nL (pc + 2) (a0 :: a1 :: a2 :: a3 :: a4 :: a5 :: a6 :: a7 :: a8 :: a9 :: a10 :: a11 :: a12 :: a13 :: some (.long x) :: r) (.long x :: st) M) : Kj g X nL pc (a0 :: a1 :: a2 :: a3 :: a4 :: a5 :: a6 :: a7 :: a8 :: a9 :: a10 :: a11 :: a12 :: a13 :: some (.long x) :: r) st M := kj_lld (i := 14) C hd rfl kk
theorem kj_lst14 (C : Cx g X cc own nL d) {a0 a1 a2 a3 a4 a5 a6 a7 a8 a9 a10 a11 a12 a13 b0 b1 : Option Value} {r : List (Option Value)} {x : Int64} (hd : decode cc pc = .ok (.lstore 14, 2)) (hn : 14 + 1 < nL) (hp : nl a13 = true) (kk : Kj g X nL (pc + 2) (a0 :: a1 :: a2 :: a3 :: a4 :: a5 :: a6 :: a7 :: a8 :: a9 :: a10 :: a11 :: a12 :: a13 :: some (.long x) :: none :: r) st M) : Kj g X nL pc (a0 :: a1 :: a2 :: a3 :: a4 :: a5 :: a6 :: a7 :: a8 :: a9 :: a10 :: a11 :: a12 :: a13 :: b0 :: b1 :: r) (.long x :: st) M := kj_lst (i := 14) C hd hn (by
  intro j hj w hw; obtain rfl : j = 13 := by (have : j + 1 = 14 := hj); omega
  simp at hw; rw [hw] at hp; simpa [nl] using hp) kk
theorem kj_ald14 (C : Cx g X cc own nL d) {a0 a1 a2 a3 a4 a5 a6 a7 a8 a9 a10 a11 a12 a13 : Option Value} {r : List (Option Value)} {x : Nat} (hd : decode cc pc = .ok (.aload 14, 2)) (kk : Kj g X nL (pc + 2) (a0 :: a1 :: a2 :: a3 :: a4 :: a5 :: a6 :: a7 :: a8 :: a9 :: a10 :: a11 :: a12 :: a13 :: some (.ref x) :: r) (.ref x :: st) M) : Kj g X nL pc (a0 :: a1 :: a2 :: a3 :: a4 :: a5 :: a6 :: a7 :: a8 :: a9 :: a10 :: a11 :: a12 :: a13 :: some (.ref x) :: r) st M := kj_ald (i := 14) C hd rfl kk
theorem kj_ast14 (C : Cx g X cc own nL d) {a0 a1 a2 a3 a4 a5 a6 a7 a8 a9 a10 a11 a12 a13 b0 : Option Value} {r : List (Option Value)} {x : Nat} (hd : decode cc pc = .ok (.astore 14, 2)) (hn : 14 < nL) (hp : nl a13 = true) (kk : Kj g X nL (pc + 2) (a0 :: a1 :: a2 :: a3 :: a4 :: a5 :: a6 :: a7 :: a8 :: a9 :: a10 :: a11 :: a12 :: a13 :: some (.ref x) :: r) st M) : Kj g X nL pc (a0 :: a1 :: a2 :: a3 :: a4 :: a5 :: a6 :: a7 :: a8 :: a9 :: a10 :: a11 :: a12 :: a13 :: b0 :: r) (.ref x :: st) M := kj_ast (i := 14) C hd hn (by
  intro j hj w hw; obtain rfl : j = 13 := by (have : j + 1 = 14 := hj); omega
  simp at hw; rw [hw] at hp; simpa [nl] using hp) kk
theorem kj_iinc14 (C : Cx g X cc own nL d) {a0 a1 a2 a3 a4 a5 a6 a7 a8 a9 a10 a11 a12 a13 : Option Value} {r : List (Option Value)} {n : Int} {x v : Int32} (hd : decode cc pc = .ok (.iinc 14 n, 3)) (hn : 14 < nL) (hp : nl a13 = true) (hv : x + Int32.ofInt n = v) (kk : Kj g X nL (pc + 3) (a0 :: a1 :: a2 :: a3 :: a4 :: a5 :: a6 :: a7 :: a8 :: a9 :: a10 :: a11 :: a12 :: a13 :: some (.int v) :: r) st M) : Kj g X nL pc (a0 :: a1 :: a2 :: a3 :: a4 :: a5 :: a6 :: a7 :: a8 :: a9 :: a10 :: a11 :: a12 :: a13 :: some (.int x) :: r) st M := kj_iinc (i := 14) C hd rfl hv hn (by
  intro j hj w hw; obtain rfl : j = 13 := by (have : j + 1 = 14 := hj); omega
  simp at hw; rw [hw] at hp; simpa [nl] using hp) kk
/-! the heap -/
theorem kj_get (C : Cx g X cc own nL d) {o index k : Nat} {q : vw_C} {ref : String} {v : Value} (ho : (o, 0) ∈ idx) (hc : vwCl[kd o]? = some q) (hin : ∀ w ∈ u_ws q.1 q.2.1 q.2.2, w ∈ gW) (hk : k < q.2.2) (hlink : Cond.fieldLink own index ref (q.2.1 k).2.1 (q.2.1 k).2.2.1 ∈ gW) (href : ref = (q.2.1 k).1) (hv : (flds g M o)[k]? = some v) (hd : decode cc pc = .ok (.getfield index, 3)) (kk : Kj g X nL (pc + 3) lv (v :: st) M) : Kj g X nL pc lv (.ref (ga g o 0) :: st) M := fun H locs ls hP hS hl => by
  obtain ⟨q0, -, he⟩ := wl_get (g := g) (M := M) ho
  subst href
  exact va_get C.1 C.2.1 C.2.2.2.2.1 hin C.2.2.2.1 C.2.2.2.2.2.1.1 hP q0 he hc k hk (C.2.2.2.2.1 _ hlink) (fun _ h => h) hv hd (kk H locs ls hP hS hl)
theorem kj_getN (C : Cx g X cc own nL d) {o index k : Nat} {q : vw_C} {ref host : String} {v : Value} (ho : (o, 0) ∈ idx) (hc : vwCl[kd o]? = some q) (hin : ∀ w ∈ u_ws q.1 q.2.1 q.2.2, w ∈ gW) (hk : k < q.2.2) (hlink : Cond.fieldLinkNest own index ref (q.2.1 k).2.1 (q.2.1 k).2.2.1 host ∈ nW) (href : ref = (q.2.1 k).1) (hv : (flds g M o)[k]? = some v) (hd : decode cc pc = .ok (.getfield index, 3)) (kk : Kj g X nL (pc + 3) lv (v :: st) M) : Kj g X nL pc lv (.ref (ga g o 0) :: st) M := fun H locs ls hP hS hl => by
  obtain ⟨q0, -, he⟩ := wl_get (g := g) (M := M) ho
  subst href
  exact va_getN C.1 C.2.1 C.2.2.2.2.1 hin C.2.2.2.1 C.2.2.2.2.2.1.1 hP q0 he hc k hk (va_Nw.use rfl (C.2.2.2.2.2.1.2.1 _ hlink)) (fun _ h => h) hv hd (kk H locs ls hP hS hl)
theorem kj_put (C : Cx g X cc own nL d) {o index k : Nat} {q : vw_C} {ref : String} {v : Value} {ty : FieldType} {M' : Mem} {ty0 : Nat → FieldType} (ho : (o, 0) ∈ idx) (hc : vwCl[kd o]? = some q) (hin : ∀ w ∈ u_ws q.1 q.2.1 q.2.2, w ∈ gW) (hty : ∀ k, k < q.2.2 → parseFieldDescriptor (q.2.1 k).2.2.1 = some (ty0 k)) (hnm : ∀ a, a < q.2.2 → ∀ b, b < q.2.2 → a ≠ b → (q.2.1 a).2.1 ≠ (q.2.1 b).2.1) (hk : k < q.2.2) (hlink : Cond.fieldLink own index ref (q.2.1 k).2.1 (q.2.1 k).2.2.1 ∈ gW) (href : ref = (q.2.1 k).1) (hfin : (q.2.1 k).2.2.2 = false) (hd' : parseFieldDescriptor (q.2.1 k).2.2.1 = some ty) (hn : narrow ty v = v) (hfit : fits ty v = true) (hlen : k < (flds g M o).length)
    (hM : ∀ a b : Nat, ¬ (a = o ∧ b = 0) → cel g M' a b = cel g M a b) (hf : flds g M' o = (flds g M o).set k v) (hd : decode cc pc = .ok (.putfield index, 3)) (kk : Kj g X nL (pc + 3) lv st M') : Kj g X nL pc lv (v :: .ref (ga g o 0) :: st) M := fun H locs ls hP hS hl => by
  obtain ⟨q0, hq0, he⟩ := wl_get (g := g) (M := M) ho
  subst href
  have hI := C.2.2.2.2.2.1.2.2.1
  refine va_put C.1 C.2.1 C.2.2.2.2.1 hin ty0 hty hnm C.2.2.2.1 C.2.2.2.2.2.1.1 hP (wl_D hI) hS q0 he hc k hk (C.2.2.2.2.1 _ hlink) (fun _ h => h) hfin hd' hn hfit hlen hd (fun H1 locs1 hP1 _ hS1 => ?_)
  have e := wl_set (g := g) (M := M) (M' := M') hq0 hM
  have e2 : cel g M' o 0 = .inr (kd o, (flds g M o).set k v) := by simp only [cel, if_true, hf]
  rw [e2] at e
  rw [e] at hP1
  exact kk H1 locs1 ls hP1 hS1 hl
theorem kj_putN (C : Cx g X cc own nL d) {o index k : Nat} {q : vw_C} {ref host : String} {v : Value} {ty : FieldType} {M' : Mem} {ty0 : Nat → FieldType} (ho : (o, 0) ∈ idx) (hc : vwCl[kd o]? = some q) (hin : ∀ w ∈ u_ws q.1 q.2.1 q.2.2, w ∈ gW) (hty : ∀ k, k < q.2.2 → parseFieldDescriptor (q.2.1 k).2.2.1 = some (ty0 k)) (hnm : ∀ a, a < q.2.2 → ∀ b, b < q.2.2 → a ≠ b → (q.2.1 a).2.1 ≠ (q.2.1 b).2.1) (hk : k < q.2.2) (hlink : Cond.fieldLinkNest own index ref (q.2.1 k).2.1 (q.2.1 k).2.2.1 host ∈ nW) (href : ref = (q.2.1 k).1) (hfin : (q.2.1 k).2.2.2 = false) (hd' : parseFieldDescriptor (q.2.1 k).2.2.1 = some ty) (hn : narrow ty v = v) (hfit : fits ty v = true) (hlen : k < (flds g M o).length)
    (hM : ∀ a b : Nat, ¬ (a = o ∧ b = 0) → cel g M' a b = cel g M a b) (hf : flds g M' o = (flds g M o).set k v) (hd : decode cc pc = .ok (.putfield index, 3)) (kk : Kj g X nL (pc + 3) lv st M') : Kj g X nL pc lv (v :: .ref (ga g o 0) :: st) M := fun H locs ls hP hS hl => by
  obtain ⟨q0, hq0, he⟩ := wl_get (g := g) (M := M) ho
  subst href
  have hI := C.2.2.2.2.2.1.2.2.1
  refine va_putN C.1 C.2.1 C.2.2.2.2.1 hin ty0 hty hnm C.2.2.2.1 C.2.2.2.2.2.1.1 hP (wl_D hI) hS q0 he hc k hk (va_Nw.use rfl (C.2.2.2.2.2.1.2.1 _ hlink)) (fun _ h => h) hfin hd' hn hfit hlen hd (fun H1 locs1 hP1 _ hS1 => ?_)
  have e := wl_set (g := g) (M := M) (M' := M') hq0 hM
  have e2 : cel g M' o 0 = .inr (kd o, (flds g M o).set k v) := by simp only [cel, if_true, hf]
  rw [e2] at e
  rw [e] at hP1
  exact kk H1 locs1 ls hP1 hS1 hl
/-- an int array -/
def isI (o i : Nat) : Bool := i != 0 && o != 21 && o != 22 && !(o == 27 && i == 13)
theorem cel_I {o i : Nat} (h : isI o i = true) : cel g M o i = .inl (gcI g, ln o i, .inl (M.1 o i)) := by
  simp [isI] at h
  obtain ⟨⟨⟨h1, h2⟩, h3⟩, h4⟩ := h
  have h5 : ¬ (o = 27 ∧ i = 13) := fun e => h4.elim (fun q => q e.1) (fun q => q e.2)
  simp only [cel, if_neg h1, if_neg h2, if_neg h3, if_neg h5]
theorem kj_iald (C : Cx g X cc own nL d) {o i n : Nat} {x : Int32} (ho : (o, i) ∈ idx) (hi : isI o i = true) (hn : ln o i = n) (hin : ¬ (x < 0 ∨ n ≤ x.toNatClampNeg)) (hd : decode cc pc = .ok (.iaload, 1)) (kk : Kj g X nL (pc + 1) lv (.int (M.1 o i x.toNatClampNeg) :: st) M) : Kj g X nL pc lv (.int x :: .ref (ga g o i) :: st) M := fun H locs ls hP hS hl => by
  obtain ⟨q0, -, he⟩ := wl_get (g := g) (M := M) ho
  rw [cel_I hi, hn] at he
  exact va_iald C.1 C.2.1 C.2.2.2.2.2.1.1 hP q0 0 he rfl hin hd (kk H locs ls hP hS hl)
theorem kj_alen (C : Cx g X cc own nL d) {o i n : Nat} {v : Int32} (ho : (o, i) ∈ idx) (hi : isI o i = true) (hn : ln o i = n) (hv : Int32.ofNat n = v) (hd : decode cc pc = .ok (.arraylength, 1)) (kk : Kj g X nL (pc + 1) lv (.int v :: st) M) : Kj g X nL pc lv (.ref (ga g o i) :: st) M := fun H locs ls hP hS hl => by
  obtain ⟨q0, -, he⟩ := wl_get (g := g) (M := M) ho
  rw [cel_I hi, hn] at he
  exact va_alen C.1 C.2.1 C.2.2.2.2.2.1.1 hP q0 0 he rfl hv hd (kk H locs ls hP hS hl)
theorem kj_iast (C : Cx g X cc own nL d) {o i n : Nat} {x y : Int32} (ho : (o, i) ∈ idx) (hi : isI o i = true) (hn : ln o i = n) (hin : ¬ (x < 0 ∨ n ≤ x.toNatClampNeg)) (hd : decode cc pc = .ok (.iastore, 1)) (kk : Kj g X nL (pc + 1) lv st (sw M o i x.toNatClampNeg y)) : Kj g X nL pc lv (.int y :: .int x :: .ref (ga g o i) :: st) M := fun H locs ls hP hS hl => by
  obtain ⟨q0, hq0, he⟩ := wl_get (g := g) (M := M) ho
  have hI := C.2.2.2.2.2.1.2.2.1
  rw [cel_I hi, hn] at he
  refine va_iast C.1 C.2.1 C.2.2.2.2.2.1.1 hP (wl_D hI) hS q0 0 he rfl hin hd (fun H1 locs1 hP1 _ hS1 => ?_)
  have e := wl_set (g := g) (M := M) (M' := sw M o i x.toNatClampNeg y) hq0 cel_sr
  rw [cel_I hi, hn, show (sw M o i x.toNatClampNeg y).1 o i = upd (M.1 o i) x.toNatClampNeg y from if_pos ⟨rfl, rfl⟩] at e
  rw [e] at hP1
  exact kk H1 locs1 ls hP1 hS1 hl
theorem kj_zald (C : Cx g X cc own nL d) {x : Int32} (hin : ¬ (x < 0 ∨ 2 ≤ x.toNatClampNeg)) (hd : decode cc pc = .ok (.baload, 1)) (kk : Kj g X nL (pc + 1) lv (.int (M.1 27 13 x.toNatClampNeg) :: st) M) : Kj g X nL pc lv (.int x :: .ref (ga g 27 13) :: st) M := fun H locs ls hP hS hl => by
  obtain ⟨q0, -, he⟩ := wl_get (g := g) (M := M) (o := 27) (i := 13) (by decide +kernel)
  exact va_zald C.1 C.2.1 C.2.2.2.2.2.1.1 hP q0 1 he rfl hin hd (kk H locs ls hP hS hl)
theorem kj_zast (C : Cx g X cc own nL d) {x y : Int32} (hin : ¬ (x < 0 ∨ 2 ≤ x.toNatClampNeg)) (hy : vp_nar .boolean y = y) (hd : decode cc pc = .ok (.bastore, 1)) (kk : Kj g X nL (pc + 1) lv st (sw M 27 13 x.toNatClampNeg y)) : Kj g X nL pc lv (.int y :: .int x :: .ref (ga g 27 13) :: st) M := fun H locs ls hP hS hl => by
  obtain ⟨q0, hq0, he⟩ := wl_get (g := g) (M := M) (o := 27) (i := 13) (by decide +kernel)
  have hI := C.2.2.2.2.2.1.2.2.1
  refine va_zast C.1 C.2.1 C.2.2.2.2.2.1.1 hP (wl_D hI) hS q0 1 he rfl hin hd (fun H1 locs1 hP1 _ hS1 => ?_)
  have e := wl_set (g := g) (M := M) (M' := sw M 27 13 x.toNatClampNeg y) hq0 cel_sr
  have e2 : cel g (sw M 27 13 x.toNatClampNeg y) 27 13 = .inl (gcZ g, 2, .inl (upd (M.1 27 13) x.toNatClampNeg y)) := rfl
  rw [e2] at e
  rw [hy, e] at hP1
  exact kk H1 locs1 ls hP1 hS1 hl
theorem kj_aald21 (C : Cx g X cc own nL d) {x : Int32} (hin : ¬ (x < 0 ∨ 14 ≤ x.toNatClampNeg)) (hd : decode cc pc = .ok (.aaload, 1)) (kk : Kj g X nL (pc + 1) lv (.ref (ga g (2 + x.toNatClampNeg) 0) :: st) M) : Kj g X nL pc lv (.int x :: .ref (ga g 21 1) :: st) M := fun H locs ls hP hS hl => by
  obtain ⟨q0, -, he⟩ := wl_get (g := g) (M := M) (o := 21) (i := 1) (by decide +kernel)
  exact va_aldq C.1 C.2.1 C.2.2.2.2.2.1.1 hP q0 2 he rfl hin hd (kk H locs ls hP hS hl)
theorem kj_aald22 (C : Cx g X cc own nL d) {x : Int32} (hin : ¬ (x < 0 ∨ 2 ≤ x.toNatClampNeg)) (hd : decode cc pc = .ok (.aaload, 1)) (kk : Kj g X nL (pc + 1) lv (.ref (ga g (16 + x.toNatClampNeg) 0) :: st) M) : Kj g X nL pc lv (.int x :: .ref (ga g 22 1) :: st) M := fun H locs ls hP hS hl => by
  obtain ⟨q0, -, he⟩ := wl_get (g := g) (M := M) (o := 22) (i := 1) (by decide +kernel)
  exact va_aldq C.1 C.2.1 C.2.2.2.2.2.1.1 hP q0 2 he rfl hin hd (kk H locs ls hP hS hl)
theorem kj_facs (C : Cx g X cc own nL d) {index : Nat} (hlink : Cond.fieldLink own index "JealousChoir$Chances" "FACTORIALS" "[I" ∈ gW) (hd : decode cc pc = .ok (.getstatic index, 3)) (kk : Kj g X nL (pc + 3) lv (.ref (gft g) :: st) M) : Kj g X nL pc lv st M := fun H locs ls hP hS hl =>
  va_gets C.1 C.2.1 C.2.2.2.2.2.1.2.2.2.1 hS C.2.2.2.1 (C.2.2.2.2.1 _ hlink) (fun _ h => h) hd (kk H locs ls hP hS hl)
theorem kj_facld (C : Cx g X cc own nL d) {x : Int32} (hin : ¬ (x < 0 ∨ 7 ≤ x.toNatClampNeg)) (hd : decode cc pc = .ok (.iaload, 1)) (kk : Kj g X nL (pc + 1) lv (.int (facs x.toNatClampNeg) :: st) M) : Kj g X nL pc lv (.int x :: .ref (gft g) :: st) M := fun H locs ls hP hS hl =>
  va_ti C.1 C.2.1 C.2.2.2.2.2.1.2.2.2.2 hS hin rfl hd (kk H locs ls hP hS hl)
theorem kj_mmin (C : Cx g X cc own nL (d + 1)) {index : Nat} (hlink : Cond.methodLink own index Lib.Math.min.name ∈ gW) (h1 : Cond.static Lib.Math.min.name ∈ gW) (h2 : Cond.initialized "java/lang/Math" ∈ gW) (h3 : Cond.code Lib.Math.min.name Lib.Math.min.code 2 (some .int) ∈ gW) (hst : (st.map fun v => v.category).sum ≤ 8) {x y : Int32} (hd : decode cc pc = .ok (.invokestatic index, 3)) (kk : Kj g X nL (pc + 3) lv (.int (if y < x then y else x) :: st) M) : Kj g X nL pc lv (.int y :: .int x :: st) M := fun H locs ls hP hS hl => by
  obtain ⟨c1, c2, c3, c4, c5, c6, c7, c8, c9, c10, c11⟩ := C
  exact va_mmin c1 c2 (c3.trans hl.1.symm) c4 (c5 _ hlink) (c5 _ h1) (c5 _ h2) (c5 _ h3) (by omega) (by omega) c8 c9 hd (kk H locs ls hP hS hl)
theorem kj_mmax (C : Cx g X cc own nL (d + 1)) {index : Nat} (hlink : Cond.methodLink own index Lib.Math.max.name ∈ gW) (h1 : Cond.static Lib.Math.max.name ∈ gW) (h2 : Cond.initialized "java/lang/Math" ∈ gW) (h3 : Cond.code Lib.Math.max.name Lib.Math.max.code 2 (some .int) ∈ gW) (hst : (st.map fun v => v.category).sum ≤ 8) {x y : Int32} (hd : decode cc pc = .ok (.invokestatic index, 3)) (kk : Kj g X nL (pc + 3) lv (.int (if x < y then y else x) :: st) M) : Kj g X nL pc lv (.int y :: .int x :: st) M := fun H locs ls hP hS hl => by
  obtain ⟨c1, c2, c3, c4, c5, c6, c7, c8, c9, c10, c11⟩ := C
  exact va_mmax c1 c2 (c3.trans hl.1.symm) c4 (c5 _ hlink) (c5 _ h1) (c5 _ h2) (c5 _ h3) (by omega) (by omega) c8 c9 hd (kk H locs ls hP hS hl)
theorem kj_mabs (C : Cx g X cc own nL (d + 1)) {index : Nat} (hlink : Cond.methodLink own index Lib.Math.abs.name ∈ gW) (h1 : Cond.static Lib.Math.abs.name ∈ gW) (h2 : Cond.initialized "java/lang/Math" ∈ gW) (h3 : Cond.code Lib.Math.abs.name Lib.Math.abs.code 1 (some .int) ∈ gW) (hst : (st.map fun v => v.category).sum ≤ 8) {x : Int32} (hd : decode cc pc = .ok (.invokestatic index, 3)) (kk : Kj g X nL (pc + 3) lv (.int (if 0 ≤ x then x else 0 - x) :: st) M) : Kj g X nL pc lv (.int x :: st) M := fun H locs ls hP hS hl => by
  obtain ⟨c1, c2, c3, c4, c5, c6, c7, c8, c9, c10, c11⟩ := C
  exact va_mabs c1 c2 (c3.trans hl.1.symm) c4 (c5 _ hlink) (c5 _ h1) (c5 _ h2) (c5 _ h3) (by omega) (by omega) c8 c9 hd (kk H locs ls hP hS hl)
/-- System.arraycopy of a whole row of six -/
theorem kj_copy (C : Cx g X cc own nL (d + 2)) {index o i a b : Nat} (hlink : Cond.methodLink own index arraycopyName ∈ gW) (h1 : Cond.native arraycopyName ∈ gW) (h2 : Cond.static arraycopyName ∈ gW) (h3 : Cond.initialized "java/lang/System" ∈ gW) (hst : (st.map fun v => v.category).sum ≤ 8) (ho : (o, i) ∈ idx) (hi : isI o i = true) (hn : ln o i = 6) (ho2 : (a, b) ∈ idx) (hi2 : isI a b = true) (hn2 : ln a b = 6) (hd : decode cc pc = .ok (.invokestatic index, 3)) (kk : Kj g X nL (pc + 3) lv st (sr M a b (va_cpy (M.1 o i) (M.1 a b) 0 0 6))) : Kj g X nL pc lv (.int 6 :: .int 0 :: .ref (ga g a b) :: .int 0 :: .ref (ga g o i) :: st) M := fun H locs ls hP hS hl => by
  obtain ⟨c1, c2, c3, c4, c5, c6, c7, c8, c9, c10, c11⟩ := C
  obtain ⟨q0, -, he⟩ := wl_get (g := g) (M := M) ho
  obtain ⟨q1, hq1, he1⟩ := wl_get (g := g) (M := M) ho2
  rw [cel_I hi, hn] at he
  rw [cel_I hi2, hn2] at he1
  have hI := c6.2.2.1
  refine va_copyi c1 c2 (c3.trans hl.1.symm) c4 (c5 _ hlink) (c5 _ h1) (c5 _ h2) (c5 _ h3) c6.1 hP (wl_D hI) hS q0 q1 0 0 he he1 rfl rfl rfl (by decide) (by decide) (by decide) (by decide) (by decide) (fun i _ => rfl) (by omega) ?_ hd (fun H1 locs1 hP1 _ hS1 => ?_)
  · have : nativeFrameWords "java/lang/System" "arraycopy" 5 ≤ 60 := by decide +kernel
    omega
  · have e := wl_set (g := g) (M := M) (M' := sr M a b (va_cpy (M.1 o i) (M.1 a b) 0 0 6)) hq1 cel_sr
    rw [cel_I hi2, hn2, show (sr M a b (va_cpy (M.1 o i) (M.1 a b) 0 0 6)).1 a b = va_cpy (M.1 o i) (M.1 a b) 0 0 6 from if_pos ⟨rfl, rfl⟩] at e
    have e0 : (0 : Int32).toNatClampNeg = 0 := by decide
    have e6 : (6 : Int32).toNatClampNeg = 6 := by decide
    rw [e0, e6, e] at hP1
    exact kk H1 locs1 ls hP1 hS1 hl
/-! ends -/
theorem kj_iret (C : Cx g X cc own nL d) (hr : (xt X).sig.returnType = some .int) {v : Int32} (hQ : Rt g X (some (.int v)) M) (hd : decode cc pc = .ok (.ireturn, 1)) : Kj g X nL pc lv [.int v] M := fun H locs ls hP hS hl => by
  rw [hQ]
  exact W.iret C.1 C.2.1 hr (fun t ht hW => ⟨⟨rfl, by rw [ht]; exact hP, C.2.2.2.2.2.1.warm hW hS ht⟩, hS.F ht⟩) hS.2.2 hd C.2.2.2.2.2.2.1
theorem kj_zret (C : Cx g X cc own nL d) (hr : (xt X).sig.returnType = some .boolean) {v : Int32} (hv : v = 0 ∨ v = 1) (hQ : Rt g X (some (.int v)) M) (hd : decode cc pc = .ok (.ireturn, 1)) : Kj g X nL pc lv [.int v] M := fun H locs ls hP hS hl => by
  rw [hQ]
  exact W.zret C.1 C.2.1 hr (by rcases hv with rfl | rfl <;> rfl) (fun t ht hW => ⟨⟨rfl, by rw [ht]; exact hP, C.2.2.2.2.2.1.warm hW hS ht⟩, hS.F ht⟩) hS.2.2 hd C.2.2.2.2.2.2.1
theorem kj_lret (C : Cx g X cc own nL d) (hr : (xt X).sig.returnType = some .long) {v : Int64} (hQ : Rt g X (some (.long v)) M) (hd : decode cc pc = .ok (.lreturn, 1)) : Kj g X nL pc lv [.long v] M := fun H locs ls hP hS hl => by
  rw [hQ]
  exact W.lret C.1 C.2.1 hr (fun t ht hW => ⟨⟨rfl, by rw [ht]; exact hP, C.2.2.2.2.2.1.warm hW hS ht⟩, hS.F ht⟩) hS.2.2 hd C.2.2.2.2.2.2.1
theorem kj_vret (C : Cx g X cc own nL d) (hr : (xt X).sig.returnType = none) (hQ : Rt g X none M) (hd : decode cc pc = .ok (.return_, 1)) : Kj g X nL pc lv [] M := fun H locs ls hP hS hl => by
  rw [hQ]
  exact W.vret C.1 C.2.1 hr (fun t ht hW => ⟨⟨rfl, by rw [ht]; exact hP, C.2.2.2.2.2.1.warm hW hS ht⟩, hS.F ht⟩) hS.2.2 hd C.2.2.2.2.2.2.1
/-! calls -/
theorem kj_run {d' mxL : Nat} {as : List Value} {v : Option Value} {M' : Mem} {rest : List Value} {H : Heap} {locs : List Loc} {ls : Array Slot} (_ : mxL ≤ 22) (hS : va_S (gA g) (xs X).heap H locs) (hl : lh ls nL lv)
    (hr : va_Run (xp X) (xl X) (xe X) (xR X) (xs X) (xm X) (xa X) (xb X) (xt X) (xc X) H locs (xk X) (xn X) 0 0 (F0 (xm X) pc ls st) rest (Qr g v M' as.toArray) (gA g)) (kk : Kj g X nL (pc + 3) lv (v.toList ++ rest) M') : W (xp X) (xl X) (xe X) (xR X) (xs X) (xm X) (xa X) (xb X) (xt X) (xc X) H locs (xk X) (xn X) (xQ X) (F0 (xm X) pc ls st) := by
  intro T hT Y
  obtain ⟨v', st₀, t, T', L, h0, Y', hL, e1, e2, ⟨⟨hv, hPt, -⟩, hz, hk⟩, stp⟩ := hr T hT Y
  cases hv
  rw [h0] at hz hk
  rw [← e1] at hPt hz hk
  obtain ⟨t2, a1, b1⟩ := kk T'.heap (locs ++ L) ls hPt ⟨Nat.le_trans hS.1 hz, fun q h1 h2 => by rw [hk q (Nat.lt_of_lt_of_le h1 hS.1) h2]; exact hS.2.1 q h1 h2, fun q hq => by
      rcases List.mem_append.mp hq with h | h
      · exact hS.2.2 q h
      · exact hL q h⟩ hl T' rfl Y'
  exact ⟨t2, stp t2 a1, b1⟩
theorem kj_pre (C : Cx g X cc own nL d) {as : List Value} {H : Heap} {locs : List Loc} (hP : va_P g.1 vwCl (wl g M) H) (hS : va_S (gA g) (xs X).heap H locs) : PreS (xs X) H (va_Pc as (Wd g M)) as := ⟨Wd.blind, fun U hU hW => ⟨rfl, by rw [hU]; exact hP, C.2.2.2.2.2.1.warm hW hS hU⟩⟩
theorem kj_recv (C : Cx g X cc own nL d) {H : Heap} {o : Nat} {q : vw_C} (hP : va_P g.1 vwCl (wl g M) H) (ho : (o, 0) ∈ idx) (hq : vwCl[kd o]? = some q) : ∃ cellB : Cell, H[ga g o 0]? = some cellB ∧ cellB.vm.isStatics = false ∧ (xs X).vm.findClass q.1 = some cellB.cls := by
  obtain ⟨q0, -, he⟩ := wl_get (g := g) (M := M) ho
  exact va_recv C.2.2.2.2.2.1.1 hP hq he
theorem kj_cb (C : Cx g X cc own nL (d + 1)) {d' index mxL n : Nat} {y : MethodName} {bytes : ByteArray} {ret : Option FieldType} (hd : d' ≤ d) (mi : Mi y bytes mxL ret n) (hl : Cond.methodLink own index y ∈ gW) : CallB (xR X) (xs X) (xa X) own index y bytes mxL ret (.code y bytes mxL ret :: gW) (rmD d') 0 0 n := by
  obtain ⟨c1, c2, c3, c4, c5, c6, c7, c8, c9, c10, c11⟩ := C
  obtain ⟨m1, m2, m3, m4⟩ := mi
  exact callB_of n c5 (gW_GoodIn' m1) rfl rfl rfl (c5 _ m2) (c5 _ hl) m3 ⟨by simp only [rmD]; omega, by simp only [rmD]; omega⟩
theorem kj_cn (C : Cx g X cc own nL (d + 1)) {d' index mxL n : Nat} {y : MethodName} {host : String} {bytes : ByteArray} {ret : Option FieldType} (hd : d' ≤ d) (mi : Mi y bytes mxL ret n) (hl : Cond.methodLinkNest own index y host ∈ nW) : va_CN (xR X) (xs X) (xa X) own index y host bytes mxL ret (.code y bytes mxL ret :: gW) (rmD d') 0 0 n := by
  obtain ⟨c1, c2, c3, c4, c5, c6, c7, c8, c9, c10, c11⟩ := C
  obtain ⟨m1, m2, m3, m4⟩ := mi
  exact va_cnB n c5 (gW_GoodIn' m1) rfl rfl rfl (c6.2.1 _ hl) (c5 _ m2) m3 ⟨by simp only [rmD]; omega, by simp only [rmD]; omega⟩
theorem kj_callV (C : Cx g X cc own nL (d + 1)) {d' index mxL n o : Nat} {y : MethodName} {bytes : ByteArray} {ret : Option FieldType} {As rest : List Value} {v : Option Value} {M' : Mem} {q : vw_C} (hM : Ct g (xl X) d' y bytes mxL ret (.ref (ga g o 0) :: As) M v M') (hdd : d' ≤ d) (mi : Mv y bytes mxL ret n) (hlk : Cond.methodLink own index y ∈ gW) (ho : (o, 0) ∈ idx) (hq : vwCl[kd o]? = some q) (hq1 : q.1 = y.cls) (hn : As.length = n) (hst : st = As.reverse ++ .ref (ga g o 0) :: rest) (hcat : (rest.map fun v => v.category).sum ≤ 8) (hd : decode cc pc = .ok (.invokevirtual index, 3)) (kk : Kj g X nL (pc + 3) lv (v.toList ++ rest) M') : Kj g X nL pc lv st M := fun H locs ls hP hS hl => by
  have hre := kj_recv (q := q) C hP ho hq
  rw [hq1] at hre
  exact kj_run (as := .ref (ga g o 0) :: As) (d' := d') mi.1.2.2.2 hS hl (va_runV ⟨C.1, C.2.1, C.2.2.1, C.2.2.2.1, C.2.2.2.2.1⟩ hM ⟨kj_cb C hdd mi.1 hlk, C.2.2.2.2.1 _ mi.2.1, C.2.2.2.2.1 _ mi.2.2⟩ ⟨Wd.blind, hre, (kj_pre C hP hS).2⟩ rfl hn hl.1 hst (lv_room hcat) hd ⟨C.2.2.2.2.2.2.2.1, C.2.2.2.2.2.2.2.2.1⟩) kk
theorem kj_callVN (C : Cx g X cc own nL (d + 1)) {d' index mxL n o : Nat} {y : MethodName} {host : String} {bytes : ByteArray} {ret : Option FieldType} {As rest : List Value} {v : Option Value} {M' : Mem} {q : vw_C} (hM : Ct g (xl X) d' y bytes mxL ret (.ref (ga g o 0) :: As) M v M') (hdd : d' ≤ d) (mi : Mv y bytes mxL ret n) (hlk : Cond.methodLinkNest own index y host ∈ nW) (ho : (o, 0) ∈ idx) (hq : vwCl[kd o]? = some q) (hq1 : q.1 = y.cls) (hn : As.length = n) (hst : st = As.reverse ++ .ref (ga g o 0) :: rest) (hcat : (rest.map fun v => v.category).sum ≤ 8) (hd : decode cc pc = .ok (.invokevirtual index, 3)) (kk : Kj g X nL (pc + 3) lv (v.toList ++ rest) M') : Kj g X nL pc lv st M := fun H locs ls hP hS hl => by
  have hre := kj_recv (q := q) C hP ho hq
  rw [hq1] at hre
  exact kj_run (as := .ref (ga g o 0) :: As) (d' := d') mi.1.2.2.2 hS hl (va_runVN ⟨C.1, C.2.1, C.2.2.1, C.2.2.2.1, C.2.2.2.2.1⟩ hM ⟨kj_cn C hdd mi.1 hlk, C.2.2.2.2.1 _ mi.2.1, C.2.2.2.2.1 _ mi.2.2⟩ ⟨Wd.blind, hre, (kj_pre C hP hS).2⟩ rfl hn hl.1 hst (lv_room hcat) hd ⟨C.2.2.2.2.2.2.2.1, C.2.2.2.2.2.2.2.2.1⟩) kk
theorem kj_callS (C : Cx g X cc own nL (d + 1)) {d' index mxL n : Nat} {y : MethodName} {bytes : ByteArray} {ret : Option FieldType} {As rest : List Value} {v : Option Value} {M' : Mem} (hM : Ct g (xl X) d' y bytes mxL ret As M v M') (hdd : d' ≤ d) (mi : Ms y bytes mxL ret n) (hlk : Cond.methodLink own index y ∈ gW) (hn : As.length = n) (hst : st = As.reverse ++ rest) (hcat : (rest.map fun v => v.category).sum ≤ 8) (hd : decode cc pc = .ok (.invokestatic index, 3)) (kk : Kj g X nL (pc + 3) lv (v.toList ++ rest) M') : Kj g X nL pc lv st M := fun H locs ls hP hS hl =>
  kj_run (as := As) (d' := d') mi.1.2.2.2 hS hl (va_runS ⟨C.1, C.2.1, C.2.2.1, C.2.2.2.1, C.2.2.2.2.1⟩ hM ⟨kj_cb C hdd mi.1 hlk, C.2.2.2.2.1 _ mi.2⟩ (kj_pre C hP hS) rfl hn hl.1 hst (lv_room hcat) hd ⟨C.2.2.2.2.2.2.2.1, C.2.2.2.2.2.2.2.2.1⟩) kk
theorem kj_callSN (C : Cx g X cc own nL (d + 1)) {d' index mxL n : Nat} {y : MethodName} {host : String} {bytes : ByteArray} {ret : Option FieldType} {As rest : List Value} {v : Option Value} {M' : Mem} (hM : Ct g (xl X) d' y bytes mxL ret As M v M') (hdd : d' ≤ d) (mi : Ms y bytes mxL ret n) (hlk : Cond.methodLinkNest own index y host ∈ nW) (hn : As.length = n) (hst : st = As.reverse ++ rest) (hcat : (rest.map fun v => v.category).sum ≤ 8) (hd : decode cc pc = .ok (.invokestatic index, 3)) (kk : Kj g X nL (pc + 3) lv (v.toList ++ rest) M') : Kj g X nL pc lv st M := fun H locs ls hP hS hl =>
  kj_run (as := As) (d' := d') mi.1.2.2.2 hS hl (va_runSN ⟨C.1, C.2.1, C.2.2.1, C.2.2.2.1, C.2.2.2.2.1⟩ hM ⟨kj_cn C hdd mi.1 hlk, C.2.2.2.2.1 _ mi.2, trivial⟩ (kj_pre C hP hS) rfl hn hl.1 hst (lv_room hcat) hd ⟨C.2.2.2.2.2.2.2.1, C.2.2.2.2.2.2.2.2.1⟩) kk
end KJ
/-- a contract out of a walk -/
theorem ct_of {g : GT} {l : Launch} {d k maxL : Nat} {y : MethodName} {cc : ByteArray} {ret : Option FieldType} {as : List Value} {lv : List (Option Value)} {M : Mem} {v : Option Value} {M' : Mem} (hy : plainName y.cls = true) (hlen : (lg_sl as).length ≤ maxL) (hlv : ea as ++ List.replicate k none = lv)
    (h : ∀ X : XT, Cx g X cc y.cls maxL d → xl X = l → (xt X).sig.returnType = ret → Rt g X v M' → Kj g X maxL 0 lv [] M) : Ct g l d y cc maxL ret as M v M' := by
  refine Met.ofW (cc := cc) (maxL := maxL) (ret := ret) hy rfl ?_
  intro p e s m args below meth c s₁ B hml hv
  obtain ⟨rfl, hP, hK⟩ := hv
  have hts := atoms_spec (ws := .code y cc maxL ret :: gW) B.pre
  have hown : s.vm.findClass y.cls = some m.cls := findClass_of_methodNamed B.named
  have hl := lv_entry as (n := maxL) hlen
  rw [lg_entry_eq]
  exact h (p, l, e, rmD d, s, m, as.toArray, below, meth, c, 0, 0, MQ below (Qr g v M') as.toArray s 0 0 (gA g)) ⟨B.exec, B.bytes, hml, hown, fun w hw => hts w (List.mem_cons_of_mem _ hw), hK, B.notSynchronized, Nat.zero_le _, Nat.zero_le _, Nat.le_refl d, Nat.le_refl (41 * d)⟩ rfl B.returns rfl s.heap [] _ hP va_S.rf (lh_entry hl hlv)
/-! small words of the generated functions -/
def lt_ {α β : Type} (a : α) (f : α → β) : β := f a
theorem of_lt {α β : Type} {a : α} {f : α → β} {t : β} (h : lt_ a f = t) : ∃ x : α, x = a ∧ f x = t := ⟨a, rfl, h⟩
theorem of_pos {β : Type} {c : Prop} [Decidable c] {a b : β} {t : β} (hc : c) (h : (if c then a else b) = t) : a = t := by rw [if_pos hc] at h; exact h
theorem of_neg {β : Type} {c : Prop} [Decidable c] {a b : β} {t : β} (hc : ¬ c) (h : (if c then a else b) = t) : b = t := by rw [if_neg hc] at h; exact h
theorem of_npos {β : Type} {c : Prop} [Decidable c] {a b : β} {t : β} (hc : c) (h : (if ¬ c then a else b) = t) : b = t := by rw [if_neg (fun q => q hc)] at h; exact h
theorem of_nneg {β : Type} {c : Prop} [Decidable c] {a b : β} {t : β} (hc : ¬ c) (h : (if ¬ c then a else b) = t) : a = t := by rw [if_pos hc] at h; exact h
theorem of_gd {β : Type} {c : Prop} [Decidable c] {a : Option β} {t : β} (h : (if c then a else none) = some t) : c ∧ a = some t := by
  by_cases hc : c
  · rw [if_pos hc] at h; exact ⟨hc, h⟩
  · rw [if_neg hc] at h; cases h
theorem of_bind {α β : Type} {a : Option α} {f : α → Option β} {t : β} (h : a.bind f = some t) : ∃ x : α, a = some x ∧ f x = some t := by
  cases a with
  | none => cases h
  | some x => exact ⟨x, rfl, h⟩
theorem ar0 {b : Value} {r : List Value} : b :: r = ([] : List Value).reverse ++ b :: r := rfl
theorem ar1 {a b : Value} {r : List Value} : a :: b :: r = [a].reverse ++ b :: r := rfl
theorem ar2 {a1 a2 b : Value} {r : List Value} : a2 :: a1 :: b :: r = [a1, a2].reverse ++ b :: r := rfl
theorem ar3 {a1 a2 a3 b : Value} {r : List Value} : a3 :: a2 :: a1 :: b :: r = [a1, a2, a3].reverse ++ b :: r := rfl
theorem ar4 {a1 a2 a3 a4 b : Value} {r : List Value} : a4 :: a3 :: a2 :: a1 :: b :: r = [a1, a2, a3, a4].reverse ++ b :: r := rfl
theorem ar5 {a1 a2 a3 a4 a5 b : Value} {r : List Value} : a5 :: a4 :: a3 :: a2 :: a1 :: b :: r = [a1, a2, a3, a4, a5].reverse ++ b :: r := rfl
theorem as0 {r : List Value} : r = ([] : List Value).reverse ++ r := rfl
theorem as1 {a1 : Value} {r : List Value} : a1 :: r = [a1].reverse ++ r := rfl
theorem as2 {a1 a2 : Value} {r : List Value} : a2 :: a1 :: r = [a1, a2].reverse ++ r := rfl
theorem as3 {a1 a2 a3 : Value} {r : List Value} : a3 :: a2 :: a1 :: r = [a1, a2, a3].reverse ++ r := rfl
