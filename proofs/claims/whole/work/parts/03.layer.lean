/-! the memory, the world of one JealousChoir and one JealousChoirModel -/
abbrev Mem : Type := (Nat → Nat → Nat → Int32) × (Nat → Int64)
/-- a row of an object (row 0: its own fields) is set -/
def sr (M : Mem) (o i : Nat) (f : Nat → Int32) : Mem := (fun a b => if a = o ∧ b = i then f else M.1 a b, M.2)
def sw (M : Mem) (o i k : Nat) (x : Int32) : Mem := sr M o i (upd (M.1 o i) k x)
def sl (M : Mem) (o : Nat) (x : Int64) : Mem := (M.1, fun a => if a = o then x else M.2 a)
abbrev GT : Type := va_G × (Nat → Nat → Nat) × ClassId × ClassId × ClassId × Nat
def ga (g : GT) (o i : Nat) : Nat := g.2.1 o i
def gcI (g : GT) : ClassId := g.2.2.1
def gcZ (g : GT) : ClassId := g.2.2.2.1
def gcS (g : GT) : ClassId := g.2.2.2.2.1
def gft (g : GT) : Nat := g.2.2.2.2.2
def kd (o : Nat) : Nat := if o < 18 then 7 else if o = 18 then 5 else if o = 19 then 4 else if o = 20 then 9 else if o = 21 then 0 else if o = 22 then 6 else if o = 23 then 3 else if o = 24 then 2 else if o = 25 then 1 else if o = 26 then 8 else 10
def flds (g : GT) (M : Mem) (o : Nat) : List Value :=
  if o < 18 then [.ref (ga g 19 0), .ref (ga g o 1), .ref (ga g o 2), .ref (ga g o 3), .ref (ga g o 4), .int (M.1 o 0 5), .int (M.1 o 0 6), .int (M.1 o 0 7)]
  else if o = 18 then [.ref (ga g 18 1), .int (M.1 o 0 1)]
  else if o = 19 then [.ref (ga g 19 1), .ref (ga g 19 2), .ref (ga g 19 3), .int (M.1 o 0 3)]
  else if o = 20 then [.ref (ga g 18 0), .ref (ga g 19 0), .ref (ga g 0 0), .ref (ga g 1 0), .ref (ga g 21 0), .ref (ga g 22 0), .ref (ga g 23 0), .ref (ga g 24 0), .ref (ga g 25 0), .ref (ga g 26 0)]
  else if o = 21 then [.ref (ga g 21 1), .int (M.1 o 0 1), .int (M.1 o 0 2)]
  else if o = 22 then [.ref (ga g 22 1), .int (M.1 o 0 1)]
  else if o = 23 then [.ref (ga g 23 1), .ref (ga g 23 2), .ref (ga g 23 3), .int (M.1 o 0 3)]
  else if o = 24 then [.ref (ga g 19 0), .ref (ga g 0 0), .ref (ga g 1 0), .ref (ga g 24 1)]
  else if o = 25 then [.ref (ga g 19 0), .ref (ga g 0 0), .ref (ga g 1 0), .ref (ga g 25 1), .ref (ga g 25 2), .ref (ga g 25 3)]
  else if o = 26 then [.ref (ga g 0 0), .ref (ga g 1 0), .long (M.2 o)]
  else [.int (M.1 o 0 0), .ref (ga g 27 1), .ref (ga g 27 2), .ref (ga g 27 3), .ref (ga g 27 4), .ref (ga g 27 5), .int (M.1 o 0 6), .int (M.1 o 0 7), .ref (ga g 27 6), .int (M.1 o 0 9), .int (M.1 o 0 10), .int (M.1 o 0 11), .int (M.1 o 0 12), .ref (ga g 27 7), .int (M.1 o 0 14), .int (M.1 o 0 15), .ref (ga g 27 8), .ref (ga g 27 9), .int (M.1 o 0 18), .ref (ga g 27 10), .ref (ga g 27 11), .ref (ga g 27 12), .long (M.2 o), .ref (ga g 27 13), .ref (ga g 27 14)]
def ln (o i : Nat) : Nat :=
  if o < 18 then 6 else if o = 18 then 48 else if o = 19 then 6 else if o = 21 then 14 else if o = 22 then 2 else if o = 23 then 6 else if o = 24 then 61
  else if o = 25 then (if i = 1 then 64 else 36)
  else if i = 4 then 40 else if i = 5 then 30 else if i = 6 then 48 else if i = 8 then 280 else if i = 9 then 61 else if i = 13 then 2 else if i = 14 then 40 else 6
def cel (g : GT) (M : Mem) (o i : Nat) : va_E :=
  if i = 0 then .inr (kd o, flds g M o)
  else if o = 21 then .inl (gcS g, 14, .inr (.inr (.inr (.inr (fun k => some (ga g (2 + k) 0))))))
  else if o = 22 then .inl (gcS g, 2, .inr (.inr (.inr (.inr (fun k => some (ga g (16 + k) 0))))))
  else if o = 27 ∧ i = 13 then .inl (gcZ g, 2, .inl (M.1 o i))
  else .inl (gcI g, ln o i, .inl (M.1 o i))
def idx : List (Nat × Nat) := ((List.range 18).flatMap fun o => [(o, 0), (o, 1), (o, 2), (o, 3), (o, 4)]) ++ [(18, 0), (18, 1), (19, 0), (19, 1), (19, 2), (19, 3), (20, 0), (21, 0), (21, 1), (22, 0), (22, 1), (23, 0), (23, 1), (23, 2), (23, 3), (24, 0), (24, 1), (25, 0), (25, 1), (25, 2), (25, 3), (26, 0), (27, 0), (27, 1), (27, 2), (27, 3), (27, 4), (27, 5), (27, 6), (27, 7), (27, 8), (27, 9), (27, 10), (27, 11), (27, 12), (27, 13), (27, 14)]
theorem idx_nd : idx.Nodup := by decide +kernel
theorem idx_st : ∀ o, o < 18 → ∀ i, i < 5 → (o, i) ∈ idx := by decide +kernel
def wl (g : GT) (M : Mem) : va_W := idx.map (fun q => (ga g q.1 q.2, cel g M q.1 q.2))
def gInj (g : GT) : Prop := ∀ q ∈ idx, ∀ r ∈ idx, ga g q.1 q.2 = ga g r.1 r.2 → q = r
def gA (g : GT) : Nat → Prop := fun a => ∃ q ∈ idx, ga g q.1 q.2 = a
theorem wl_get {g : GT} {M : Mem} {o i : Nat} (h : (o, i) ∈ idx) : ∃ k : Nat, idx[k]? = some (o, i) ∧ (wl g M)[k]? = some (ga g o i, cel g M o i) := by
  obtain ⟨k, hk⟩ := List.getElem?_of_mem h
  exact ⟨k, hk, by simp [wl, List.getElem?_map, hk]⟩
theorem wl_at {g : GT} {M : Mem} {k : Nat} {q : Nat × va_E} (h : (wl g M)[k]? = some q) : ∃ r : Nat × Nat, idx[k]? = some r ∧ q = (ga g r.1 r.2, cel g M r.1 r.2) := by
  simp only [wl, List.getElem?_map, Option.map_eq_some_iff] at h
  obtain ⟨r, h1, h2⟩ := h
  exact ⟨r, h1, h2.symm⟩
theorem wl_D {g : GT} {M : Mem} (h : gInj g) : va_D (gA g) (wl g M) := by
  refine ⟨fun i j p q hp hq he => ?_, fun k q hq => ?_⟩
  · obtain ⟨r1, h1, rfl⟩ := wl_at hp
    obtain ⟨r2, h2, rfl⟩ := wl_at hq
    have e := h r1 (List.mem_of_getElem? h1) r2 (List.mem_of_getElem? h2) he
    subst e
    have hi : i < idx.length := (List.getElem?_eq_some_iff.mp h1).1
    exact (List.getElem?_inj hi idx_nd).mp (h1.trans h2.symm)
  · obtain ⟨r, h1, rfl⟩ := wl_at hq
    exact ⟨r, List.mem_of_getElem? h1, rfl⟩
theorem wl_set {g : GT} {M M' : Mem} {k o i : Nat} (hk : idx[k]? = some (o, i)) (hM : ∀ a b : Nat, ¬ (a = o ∧ b = i) → cel g M' a b = cel g M a b) : (wl g M).set k (ga g o i, cel g M' o i) = wl g M' := by
  have hl : k < idx.length := (List.getElem?_eq_some_iff.mp hk).1
  apply List.ext_getElem?
  intro n
  rw [List.getElem?_set]
  by_cases h : k = n
  · subst h
    rw [if_pos rfl, if_pos (by simpa [wl] using hl)]
    simp [wl, List.getElem?_map, hk]
  · rw [if_neg h]
    simp only [wl, List.getElem?_map]
    cases hn : idx[n]? with
    | none => rfl
    | some r =>
      have hne : ¬ (r.1 = o ∧ r.2 = i) := by
        rintro ⟨h1, h2⟩
        have : r = (o, i) := Prod.ext h1 h2
        subst this
        exact h ((List.getElem?_inj hl idx_nd).mp (hk.trans hn.symm))
      simp [hM r.1 r.2 hne]
theorem cel_sr {g : GT} {M : Mem} {o i : Nat} {f : Nat → Int32} (a b : Nat) (h : ¬ (a = o ∧ b = i)) : cel g (sr M o i f) a b = cel g M a b := by
  have e : (sr M o i f).1 a b = M.1 a b := if_neg h
  have e2 : (sr M o i f).2 = M.2 := rfl
  by_cases hb : b = 0
  · subst hb
    have e3 : flds g (sr M o i f) a = flds g M a := by
      unfold flds
      simp only [e, e2]
    simp only [cel, if_true, e3]
  · simp only [cel, if_neg hb, e]
theorem cel_sl {g : GT} {M : Mem} {o : Nat} {x : Int64} (a b : Nat) (h : ¬ (a = o ∧ b = 0)) : cel g (sl M o x) a b = cel g M a b := by
  by_cases hb : b = 0
  · subst hb
    have ha : ¬ a = o := fun e => h ⟨e, rfl⟩
    have e3 : flds g (sl M o x) a = flds g M a := by
      unfold flds
      simp only [sl, if_neg ha]
    simp only [cel, if_true, e3]
  · simp only [cel, if_neg hb, sl]
/-! the words: all good ones of the tables; those of nest mates -/
def gW : List Cond := lw_tbl.filter goodWord
def isN : Cond → Bool
  | .fieldLinkNest .. => true
  | .methodLinkNest .. => true
  | _ => false
def nW : List Cond := lw_tbl.filter isN
theorem gW_in {w : Cond} (h : w ∈ gW) : w ∈ lw_tbl := (List.mem_filter.mp h).1
theorem gW_good {w : Cond} (h : w ∈ gW) : goodWord w = true := (List.mem_filter.mp h).2
theorem gW_GoodIn {y y' : MethodName} {b b' : ByteArray} {n n' : Nat} {r r' : Option FieldType} (h : Cond.code y' b' n' r' ∈ gW) : GoodIn (Cond.code y b n r :: gW) (Cond.code y' b' n' r' :: gW) := by
  intro w hw
  rcases List.mem_cons.mp hw with rfl | hw
  · exact ⟨List.mem_cons_of_mem _ h, good_of_word (gW_good h)⟩
  · exact ⟨List.mem_cons_of_mem _ hw, good_of_word (gW_good hw)⟩
theorem gW_GoodIn' {y' : MethodName} {b' : ByteArray} {n' : Nat} {r' : Option FieldType} (h : Cond.code y' b' n' r' ∈ gW) : GoodIn gW (Cond.code y' b' n' r' :: gW) := by
  intro w hw
  rcases List.mem_cons.mp hw with rfl | hw
  · exact ⟨h, good_of_word (gW_good h)⟩
  · exact ⟨hw, good_of_word (gW_good hw)⟩
def facs (j : Nat) : Int32 := if j = 0 then 1 else if j = 1 then 1 else if j = 2 then 2 else if j = 3 then 6 else if j = 4 then 24 else if j = 5 then 120 else 720
abbrev gtys (g : GT) : List (ClassId × FieldType) := [(gcI g, .int), (gcZ g, .boolean), (gcS g, .object "JealousChoir$Stand")]
def Wk (g : GT) (U : State) : Prop := va_K g.1 vwCl (gtys g) U ∧ (∀ w ∈ nW, va_Nw w U) ∧ gInj g ∧ va_Z "JealousChoir$Chances" "FACTORIALS" "[I" (.ref (gft g)) (gA g) U U.heap ∧ va_T .int (gft g) 7 (fun j => .int (facs j)) (gA g) U U.heap
def Wd (g : GT) (M : Mem) (U : State) : Prop := va_P g.1 vwCl (wl g M) U.heap ∧ Wk g U
theorem nW_warm {s U : State} (hW : s.WarmedH U.vm) (h : ∀ w ∈ nW, va_Nw w s) : ∀ w ∈ nW, va_Nw w U := by
  intro w hw
  have h1 := h w hw
  have h2 := (List.mem_filter.mp hw).2
  cases w <;> first | exact va_Nw.warmF hW h1 | exact va_Nw.warmM hW h1 | cases h2
theorem nW_same {s U : State} (hv : s.vm = U.vm) (h : ∀ w ∈ nW, va_Nw w s) : ∀ w ∈ nW, va_Nw w U := by
  intro w hw
  have h1 := h w hw
  have h2 := (List.mem_filter.mp hw).2
  cases w <;> first | exact va_Nw.same rfl hv h1 | cases h2
theorem Wk.warm {g : GT} {s U : State} {H : Heap} {locs : List Loc} (h : Wk g s) (hW : s.WarmedH U.vm) (hS : va_S (gA g) s.heap H locs) (hU : U.heap = H) : Wk g U := by
  obtain ⟨h1, h2, h3, h4, h5⟩ := h
  have hq : ∀ a : Nat, a < s.heap.size → ¬ gA g a → U.heap[a]? = s.heap[a]? := fun a q1 q2 => by rw [hU]; exact hS.2.1 a q1 q2
  exact ⟨va_K.moved hW.alike h1, nW_warm hW h2, h3, (h4.moved hW.alike).kept hq, (h5.moved hW.alike).kept hq⟩
theorem Wd.blind {g : GT} {M : Mem} {as : List Value} : FrameBlind (va_Pc as (Wd g M)) := by
  intro a U G mk q
  obtain ⟨q0, qP, q1, q2, q3, q4, q5⟩ := q
  exact ⟨q0, qP, va_K.moved (u := U) (U := U.calling G mk a) (Vm.Alike.refl U.vm) q1, nW_same (s := U) (U := U.calling G mk a) rfl q2, q3, va_Z.moved (u := U) (U := U.calling G mk a) (Vm.Alike.refl U.vm) q4, va_T.moved (u := U) (U := U.calling G mk a) (Vm.Alike.refl U.vm) q5⟩
/-! locals by their places -/
def lh (ls : Array Slot) (nL : Nat) (lv : List (Option Value)) : Prop := ls.size = nL ∧ lv_wf ls ∧ ∀ (i : Nat) (v : Value), lv[i]? = some (some v) → ls[i]? = some (.val v)
def ll (nL : Nat) (lv : List (Option Value)) : List (Nat × Value) := (List.range nL).filterMap (fun i => (lv[i]?.join).map (fun v => (i, v)))
theorem ll_mem {nL : Nat} {lv : List (Option Value)} {q : Nat × Value} : q ∈ ll nL lv ↔ q.1 < nL ∧ lv[q.1]? = some (some q.2) := by
  simp only [ll, List.mem_filterMap, List.mem_range, Option.map_eq_some_iff]
  constructor
  · rintro ⟨a, h1, v, h2, rfl⟩
    refine ⟨h1, ?_⟩
    cases h : lv[a]? with
    | none => rw [h] at h2; cases h2
    | some o => rw [h] at h2; simp only [Option.join_some] at h2; rw [h2]
  · rintro ⟨h1, h2⟩
    exact ⟨q.1, h1, q.2, by rw [h2]; rfl, rfl⟩
theorem lh.has {ls : Array Slot} {nL : Nat} {lv : List (Option Value)} (h : lh ls nL lv) : lv_has ls nL (ll nL lv) := ⟨h.1, h.2.1, fun q hq => h.2.2 q.1 q.2 (ll_mem.mp hq).2⟩
theorem lh.lt {ls : Array Slot} {nL : Nat} {lv : List (Option Value)} (h : lh ls nL lv) {i : Nat} {v : Value} (hi : lv[i]? = some (some v)) : i < nL := by
  have := h.2.2 i v hi
  rw [← h.1]
  exact (Array.getElem?_eq_some_iff.mp this).1
theorem lh.mono {ls : Array Slot} {nL : Nat} {lv lv' : List (Option Value)} (h : lh ls nL lv) (hm : ∀ (i : Nat) (v : Value), lv'[i]? = some (some v) → lv[i]? = some (some v)) : lh ls nL lv' := ⟨h.1, h.2.1, fun i v q => h.2.2 i v (hm i v q)⟩
/-- not the first half of a long -/
def nl (a : Option Value) : Bool := match a with
  | some v => v.category == 1
  | none => true
theorem lh.st1 {ls ls' : Array Slot} {nL i : Nat} {v : Value} {lv : List (Option Value)} (h : lh ls nL lv) (h' : lv_has ls' nL ((i, v) :: (ll nL lv).filter (fun q => !(q.1 == i) && !(q.1 + 1 == i && q.2.category == 2)))) (hp : ∀ j : Nat, j + 1 = i → ∀ w, lv[j]? = some (some w) → w.category = 1) : lh ls' nL (lv.set i (some v)) := by
  refine ⟨h'.1, h'.2.1, fun j w hj => ?_⟩
  rw [List.getElem?_set] at hj
  by_cases hij : i = j
  · subst hij
    rw [if_pos rfl] at hj
    split at hj
    · cases hj; exact h'.2.2 _ List.mem_cons_self
    · cases hj
  · rw [if_neg hij] at hj
    refine h'.2.2 (j, w) (List.mem_cons_of_mem _ (List.mem_filter.mpr ⟨ll_mem.mpr ⟨h.lt hj, hj⟩, ?_⟩))
    have h1 : ¬ j = i := fun e => hij e.symm
    by_cases h2 : j + 1 = i
    · have := hp j h2 w hj
      simp [h1, this]
    · simp [h1, h2]
theorem lh.st2 {ls ls' : Array Slot} {nL i : Nat} {v : Value} {lv : List (Option Value)} (h : lh ls nL lv) (h' : lv_has ls' nL ((i, v) :: (ll nL lv).filter (fun q => !(q.1 == i) && (!(q.1 == i + 1) && !(q.1 + 1 == i && q.2.category == 2))))) (hp : ∀ j : Nat, j + 1 = i → ∀ w, lv[j]? = some (some w) → w.category = 1) : lh ls' nL ((lv.set i (some v)).set (i + 1) none) := by
  refine ⟨h'.1, h'.2.1, fun j w hj => ?_⟩
  rw [List.getElem?_set] at hj
  by_cases hij1 : i + 1 = j
  · rw [if_pos hij1] at hj
    split at hj <;> cases hj
  · rw [if_neg hij1, List.getElem?_set] at hj
    by_cases hij : i = j
    · subst hij
      rw [if_pos rfl] at hj
      split at hj
      · cases hj; exact h'.2.2 _ List.mem_cons_self
      · cases hj
    · rw [if_neg hij] at hj
      refine h'.2.2 (j, w) (List.mem_cons_of_mem _ (List.mem_filter.mpr ⟨ll_mem.mpr ⟨h.lt hj, hj⟩, ?_⟩))
      have h1 : ¬ j = i := fun e => hij e.symm
      have h3 : ¬ j = i + 1 := fun e => hij1 e.symm
      by_cases h2 : j + 1 = i
      · have := hp j h2 w hj
        simp [h1, h3, this]
      · simp [h1, h2, h3]
def ea : List Value → List (Option Value)
  | [] => []
  | v :: vs => if v.category = 2 then some v :: none :: ea vs else some v :: ea vs
theorem ea_args (vs : List Value) : ∀ (n i : Nat) (v : Value), (ea vs)[i]? = some (some v) → (n + i, v) ∈ lv_args n vs := by
  induction vs with
  | nil => intro n i v h; simp [ea] at h
  | cons w vs ih =>
    intro n i v h
    unfold ea at h
    unfold lv_args
    by_cases hc : w.category = 2
    · rw [if_pos hc] at h
      rw [if_pos hc]
      match i, h with
      | 0, h => simp at h; subst h; exact List.mem_cons_self
      | 1, h => simp at h
      | i + 2, h =>
        simp at h
        have := ih (n + 2) i v h
        rw [show n + (i + 2) = n + 2 + i by omega]
        exact List.mem_cons_of_mem _ this
    · rw [if_neg hc] at h
      rw [if_neg hc]
      match i, h with
      | 0, h => simp at h; subst h; exact List.mem_cons_self
      | i + 1, h =>
        simp at h
        have := ih (n + 1) i v h
        rw [show n + (i + 1) = n + 1 + i by omega]
        exact List.mem_cons_of_mem _ this
theorem lh_entry {ls : Array Slot} {n k : Nat} {vs : List Value} {lv : List (Option Value)} (h : lv_has ls n (lv_args 0 vs)) (hlv : ea vs ++ List.replicate k none = lv) : lh ls n lv := by
  refine ⟨h.1, h.2.1, fun i v hi => ?_⟩
  subst hlv
  by_cases hl : i < (ea vs).length
  · rw [List.getElem?_append_left hl] at hi
    have := ea_args vs 0 i v hi
    rw [Nat.zero_add] at this
    exact h.2.2 _ this
  · rw [List.getElem?_append_right (by omega), List.getElem?_replicate] at hi
    split at hi <;> cases hi
