/-! ===== BEGIN words of one list among another's, by their places ===== -/
theorem goodIn_r {big : List Cond} (ws : List Cond) (ps : List Nat) (hp : ws = ps.filterMap (fun i => big[i]?)) (h : ws.all goodWord = true) : GoodIn big ws := by
  intro w hw
  have h1 := List.all_eq_true.mp h w hw
  rw [hp] at hw
  obtain ⟨i, -, hi⟩ := List.mem_filterMap.mp hw
  have hm : w ∈ big := by first | exact List.mem_of_getElem? hi | exact List.getElem?_mem hi
  exact ⟨hm, good_of_word h1⟩
theorem goodIn_app {big a b : List Cond} (ha : GoodIn big a) (hb : GoodIn big b) : GoodIn big (a ++ b) := fun w h => (List.mem_append.mp h).elim (ha w) (hb w)
theorem goodIn_ca {big a b : List Cond} {c : Cond} (ha : GoodIn big (c :: a)) (hb : GoodIn big b) : GoodIn big (c :: (a ++ b)) := fun w h => (List.mem_cons.mp h).elim (fun e => ha w (List.mem_cons.mpr (Or.inl e))) (fun h => (List.mem_append.mp h).elim (fun h => ha w (List.mem_cons.mpr (Or.inr h))) (hb w))
theorem goodIn_sub {big ws : List Cond} (hm : ∀ w ∈ ws, w ∈ big) (h : ws.all goodWord = true) : GoodIn big ws := fun w hw => ⟨hm w hw, good_of_word (List.all_eq_true.mp h w hw)⟩
/-! ===== END ===== -/

/-! ===== BEGIN printed: names, fields, word lists, decode rows ===== -/
def RX0 : String := "JealousChoir$ActRow"
def TX0 : u_T := fun k => match k with
  | 0 => ("JealousChoir$ActRow", "before", "[LJealousChoir$Stand;", true)
  | 1 => ("JealousChoir$ActRow", "next", "I", false)
  | _ => ("JealousChoir$ActRow", "size", "I", false)
def tyX0 : Nat → FieldType := fun k => match k with
  | 0 => .array (.object "JealousChoir$Stand")
  | 1 => .int
  | _ => .int
abbrev wsX00 : List Cond := u_ws RX0 TX0 3
theorem nmX0 : ∀ a, a < 3 → ∀ b, b < 3 → a ≠ b → (TX0 a).2.1 ≠ (TX0 b).2.1 := by decide +kernel
theorem tyX0_ok : ∀ k, k < 3 → parseFieldDescriptor (TX0 k).2.2.1 = some (tyX0 k) := by decide +kernel
abbrev cX0_init : ByteArray := prog_2_method_1_code
def yX0_init : MethodName := ⟨RX0, "<init>", "(LJealousChoir$Roll;)V"⟩
abbrev cX0_forgetAll : ByteArray := prog_2_method_2_code
def yX0_forgetAll : MethodName := ⟨RX0, "forgetAll", "()V"⟩
abbrev cX0_remember : ByteArray := prog_2_method_3_code
def yX0_remember : MethodName := ⟨RX0, "remember", "(LJealousChoir$Stand;)V"⟩
abbrev cX0_giveBack : ByteArray := prog_2_method_4_code
def yX0_giveBack : MethodName := ⟨RX0, "giveBack", "(LJealousChoir$Stand;)Z"⟩
def RX1 : String := "JealousChoir$Chances"
def TX1 : u_T := fun k => match k with
  | 0 => ("JealousChoir$Chances", "roll", "LJealousChoir$Roll;", true)
  | 1 => ("JealousChoir$Chances", "now", "LJealousChoir$Stand;", true)
  | 2 => ("JealousChoir$Chances", "trial", "LJealousChoir$Stand;", true)
  | 3 => ("JealousChoir$Chances", "richnessOf", "[I", true)
  | 4 => ("JealousChoir$Chances", "forOne", "[I", true)
  | _ => ("JealousChoir$Chances", "forOther", "[I", true)
def tyX1 : Nat → FieldType := fun k => match k with
  | 0 => .object "JealousChoir$Roll"
  | 1 => .object "JealousChoir$Stand"
  | 2 => .object "JealousChoir$Stand"
  | 3 => .array .int
  | 4 => .array .int
  | _ => .array .int
abbrev wsX10 : List Cond := u_ws RX1 TX1 6
theorem nmX1 : ∀ a, a < 6 → ∀ b, b < 6 → a ≠ b → (TX1 a).2.1 ≠ (TX1 b).2.1 := by decide +kernel
theorem tyX1_ok : ∀ k, k < 6 → parseFieldDescriptor (TX1 k).2.2.1 = some (tyX1 k) := by decide +kernel
abbrev cX1_init : ByteArray := prog_3_method_1_code
def yX1_init : MethodName := ⟨RX1, "<init>", "(LJealousChoir$Roll;LJealousChoir$Stand;LJealousChoir$Stand;)V"⟩
abbrev cX1_richnessOfSome : ByteArray := prog_3_method_2_code
def yX1_richnessOfSome : MethodName := ⟨RX1, "richnessOfSome", "(II)I"⟩
abbrev cX1_meanGain : ByteArray := prog_3_method_3_code
def yX1_meanGain : MethodName := ⟨RX1, "meanGain", "(IZ)I"⟩
abbrev cX1_ordersOf : ByteArray := prog_3_method_4_code
def yX1_ordersOf : MethodName := ⟨RX1, "ordersOf", "(I)I"⟩
abbrev cX1_factorial : ByteArray := prog_3_method_5_code
def yX1_factorial : MethodName := ⟨RX1, "factorial", "(I)I"⟩
abbrev cX1_restingPairs : ByteArray := prog_3_method_6_code
def yX1_restingPairs : MethodName := ⟨RX1, "restingPairs", "(IIZ)I"⟩
abbrev cX1_giveAndCount : ByteArray := prog_3_method_7_code
def yX1_giveAndCount : MethodName := ⟨RX1, "giveAndCount", "(IIII)V"⟩
abbrev cX1_isAtRest : ByteArray := prog_3_method_8_code
def yX1_isAtRest : MethodName := ⟨RX1, "isAtRest", "(II)Z"⟩
abbrev cX1_chanceOfOneNote : ByteArray := prog_3_method_9_code
def yX1_chanceOfOneNote : MethodName := ⟨RX1, "chanceOfOneNote", "(IIZ)I"⟩
def RX2 : String := "JealousChoir$Forecast"
def TX2 : u_T := fun k => match k with
  | 0 => ("JealousChoir$Forecast", "roll", "LJealousChoir$Roll;", true)
  | 1 => ("JealousChoir$Forecast", "now", "LJealousChoir$Stand;", true)
  | 2 => ("JealousChoir$Forecast", "trial", "LJealousChoir$Stand;", true)
  | _ => ("JealousChoir$Forecast", "sungBehind", "[I", true)
def tyX2 : Nat → FieldType := fun k => match k with
  | 0 => .object "JealousChoir$Roll"
  | 1 => .object "JealousChoir$Stand"
  | 2 => .object "JealousChoir$Stand"
  | _ => .array .int
abbrev wsX20 : List Cond := u_ws RX2 TX2 4
theorem nmX2 : ∀ a, a < 4 → ∀ b, b < 4 → a ≠ b → (TX2 a).2.1 ≠ (TX2 b).2.1 := by decide +kernel
theorem tyX2_ok : ∀ k, k < 4 → parseFieldDescriptor (TX2 k).2.2.1 = some (tyX2 k) := by decide +kernel
abbrev cX2_init : ByteArray := prog_4_method_1_code
def yX2_init : MethodName := ⟨RX2, "<init>", "(LJealousChoir$Roll;LJealousChoir$Stand;LJealousChoir$Stand;)V"⟩
abbrev cX2_noteBehind : ByteArray := prog_4_method_2_code
def yX2_noteBehind : MethodName := ⟨RX2, "noteBehind", "(II)I"⟩
abbrev cX2_richnessBehind : ByteArray := prog_4_method_3_code
def yX2_richnessBehind : MethodName := ⟨RX2, "richnessBehind", "(I)I"⟩
abbrev cX2_firstReturn : ByteArray := prog_4_method_4_code
def yX2_firstReturn : MethodName := ⟨RX2, "firstReturn", "(Z)I"⟩
abbrev cX2_firstOneNote : ByteArray := prog_4_method_5_code
def yX2_firstOneNote : MethodName := ⟨RX2, "firstOneNote", "()I"⟩
abbrev cX2_leastGift : ByteArray := prog_4_method_6_code
def yX2_leastGift : MethodName := ⟨RX2, "leastGift", "(IIIZ)I"⟩
abbrev cX2_richestChange : ByteArray := prog_4_method_7_code
def yX2_richestChange : MethodName := ⟨RX2, "richestChange", "(IZ)I"⟩
abbrev cX2_firstWrongDoing : ByteArray := prog_4_method_8_code
def yX2_firstWrongDoing : MethodName := ⟨RX2, "firstWrongDoing", "(IJ)I"⟩
abbrev cX2_canBe : ByteArray := prog_4_method_9_code
def yX2_canBe : MethodName := ⟨RX2, "canBe", "(III)Z"⟩
abbrev cX2_happen : ByteArray := prog_4_method_10_code
def yX2_happen : MethodName := ⟨RX2, "happen", "(III)V"⟩
abbrev cX2_goodsThatFit : ByteArray := prog_4_method_11_code
def yX2_goodsThatFit : MethodName := ⟨RX2, "goodsThatFit", "(ILJealousChoir$Hearsay;)I"⟩
abbrev cX2_isAllHeard : ByteArray := prog_4_method_12_code
def yX2_isAllHeard : MethodName := ⟨RX2, "isAllHeard", "(LJealousChoir$Hearsay;)Z"⟩
def RX3 : String := "JealousChoir$Hearsay"
def TX3 : u_T := fun k => match k with
  | 0 => ("JealousChoir$Hearsay", "singers", "[I", true)
  | 1 => ("JealousChoir$Hearsay", "times", "[I", true)
  | 2 => ("JealousChoir$Hearsay", "sung", "[I", true)
  | _ => ("JealousChoir$Hearsay", "size", "I", false)
def tyX3 : Nat → FieldType := fun k => match k with
  | 0 => .array .int
  | 1 => .array .int
  | 2 => .array .int
  | _ => .int
abbrev wsX30 : List Cond := u_ws RX3 TX3 4
theorem nmX3 : ∀ a, a < 4 → ∀ b, b < 4 → a ≠ b → (TX3 a).2.1 ≠ (TX3 b).2.1 := by decide +kernel
theorem tyX3_ok : ∀ k, k < 4 → parseFieldDescriptor (TX3 k).2.2.1 = some (tyX3 k) := by decide +kernel
abbrev cX3_init : ByteArray := prog_5_method_1_code
def yX3_init : MethodName := ⟨RX3, "<init>", "()V"⟩
abbrev cX3_put : ByteArray := prog_5_method_2_code
def yX3_put : MethodName := ⟨RX3, "put", "(III)Z"⟩
abbrev cX3_allowsAt : ByteArray := prog_5_method_3_code
def yX3_allowsAt : MethodName := ⟨RX3, "allowsAt", "(ILJealousChoir$Stand;)Z"⟩
def RX4 : String := "JealousChoir$Roll"
def TX4 : u_T := fun k => match k with
  | 0 => ("JealousChoir$Roll", "voices", "[I", true)
  | 1 => ("JealousChoir$Roll", "ranges", "[I", true)
  | 2 => ("JealousChoir$Roll", "kinds", "[I", true)
  | _ => ("JealousChoir$Roll", "size", "I", false)
def tyX4 : Nat → FieldType := fun k => match k with
  | 0 => .array .int
  | 1 => .array .int
  | 2 => .array .int
  | _ => .int
abbrev wsX40 : List Cond := u_ws RX4 TX4 4
theorem nmX4 : ∀ a, a < 4 → ∀ b, b < 4 → a ≠ b → (TX4 a).2.1 ≠ (TX4 b).2.1 := by decide +kernel
theorem tyX4_ok : ∀ k, k < 4 → parseFieldDescriptor (TX4 k).2.2.1 = some (tyX4 k) := by decide +kernel
abbrev cX4_init : ByteArray := prog_6_method_1_code
def yX4_init : MethodName := ⟨RX4, "<init>", "()V"⟩
abbrev cX4_everybody : ByteArray := prog_6_method_2_code
def yX4_everybody : MethodName := ⟨RX4, "everybody", "()I"⟩
def RX5 : String := "JealousChoir$Script"
def TX5 : u_T := fun k => match k with
  | 0 => ("JealousChoir$Script", "letters", "[I", true)
  | _ => ("JealousChoir$Script", "length", "I", false)
def tyX5 : Nat → FieldType := fun k => match k with
  | 0 => .array .int
  | _ => .int
abbrev wsX50 : List Cond := u_ws RX5 TX5 2
theorem nmX5 : ∀ a, a < 2 → ∀ b, b < 2 → a ≠ b → (TX5 a).2.1 ≠ (TX5 b).2.1 := by decide +kernel
theorem tyX5_ok : ∀ k, k < 2 → parseFieldDescriptor (TX5 k).2.2.1 = some (tyX5 k) := by decide +kernel
abbrev cX5_init : ByteArray := prog_7_method_1_code
def yX5_init : MethodName := ⟨RX5, "<init>", "()V"⟩
abbrev cX5_put : ByteArray := prog_7_method_2_code
def yX5_put : MethodName := ⟨RX5, "put", "(I)Z"⟩
abbrev cX5_firstFault : ByteArray := prog_7_method_3_code
def yX5_firstFault : MethodName := ⟨RX5, "firstFault", "()I"⟩
abbrev cX5_part : ByteArray := prog_7_method_4_code
def yX5_part : MethodName := ⟨RX5, "part", "(I)I"⟩
abbrev cX5_canStand : ByteArray := prog_7_method_5_code
def yX5_canStand : MethodName := ⟨RX5, "canStand", "(III)Z"⟩
abbrev cX5_tellTo : ByteArray := prog_7_method_6_code
def yX5_tellTo : MethodName := ⟨RX5, "tellTo", "(LJealousChoir$Roll;LJealousChoir$Stand;)V"⟩
def RX6 : String := "JealousChoir$Shelf"
def TX6 : u_T := fun k => match k with
  | 0 => ("JealousChoir$Shelf", "kept", "[LJealousChoir$Stand;", true)
  | _ => ("JealousChoir$Shelf", "filled", "I", false)
def tyX6 : Nat → FieldType := fun k => match k with
  | 0 => .array (.object "JealousChoir$Stand")
  | _ => .int
abbrev wsX60 : List Cond := u_ws RX6 TX6 2
theorem nmX6 : ∀ a, a < 2 → ∀ b, b < 2 → a ≠ b → (TX6 a).2.1 ≠ (TX6 b).2.1 := by decide +kernel
theorem tyX6_ok : ∀ k, k < 2 → parseFieldDescriptor (TX6 k).2.2.1 = some (tyX6 k) := by decide +kernel
abbrev cX6_init : ByteArray := prog_8_method_1_code
def yX6_init : MethodName := ⟨RX6, "<init>", "(LJealousChoir$Roll;)V"⟩
abbrev cX6_forgetAll : ByteArray := prog_8_method_2_code
def yX6_forgetAll : MethodName := ⟨RX6, "forgetAll", "()V"⟩
abbrev cX6_put : ByteArray := prog_8_method_3_code
def yX6_put : MethodName := ⟨RX6, "put", "(ILJealousChoir$Stand;)Z"⟩
abbrev cX6_giveBack : ByteArray := prog_8_method_4_code
def yX6_giveBack : MethodName := ⟨RX6, "giveBack", "(ILJealousChoir$Stand;)Z"⟩
def RX7 : String := "JealousChoir$Stand"
def TX7 : u_T := fun k => match k with
  | 0 => ("JealousChoir$Stand", "roll", "LJealousChoir$Roll;", true)
  | 1 => ("JealousChoir$Stand", "seats", "[I", true)
  | 2 => ("JealousChoir$Stand", "goods", "[I", true)
  | 3 => ("JealousChoir$Stand", "notes", "[I", true)
  | 4 => ("JealousChoir$Stand", "nextNotes", "[I", true)
  | 5 => ("JealousChoir$Stand", "there", "I", false)
  | 6 => ("JealousChoir$Stand", "heldOn", "I", false)
  | _ => ("JealousChoir$Stand", "bars", "I", false)
def tyX7 : Nat → FieldType := fun k => match k with
  | 0 => .object "JealousChoir$Roll"
  | 1 => .array .int
  | 2 => .array .int
  | 3 => .array .int
  | 4 => .array .int
  | 5 => .int
  | 6 => .int
  | _ => .int
abbrev wsX70 : List Cond := u_ws RX7 TX7 8
theorem nmX7 : ∀ a, a < 8 → ∀ b, b < 8 → a ≠ b → (TX7 a).2.1 ≠ (TX7 b).2.1 := by decide +kernel
theorem tyX7_ok : ∀ k, k < 8 → parseFieldDescriptor (TX7 k).2.2.1 = some (tyX7 k) := by decide +kernel
abbrev cX7_init : ByteArray := prog_9_method_1_code
def yX7_init : MethodName := ⟨RX7, "<init>", "(LJealousChoir$Roll;)V"⟩
abbrev cX7_copyFrom : ByteArray := prog_9_method_2_code
def yX7_copyFrom : MethodName := ⟨RX7, "copyFrom", "(LJealousChoir$Stand;)V"⟩
abbrev cX7_isThere : ByteArray := prog_9_method_3_code
def yX7_isThere : MethodName := ⟨RX7, "isThere", "(I)Z"⟩
abbrev cX7_isHeldOn : ByteArray := prog_9_method_4_code
def yX7_isHeldOn : MethodName := ⟨RX7, "isHeldOn", "(I)Z"⟩
abbrev cX7_isHeld : ByteArray := prog_9_method_5_code
def yX7_isHeld : MethodName := ⟨RX7, "isHeld", "(I)Z"⟩
abbrev cX7_isSeen : ByteArray := prog_9_method_6_code
def yX7_isSeen : MethodName := ⟨RX7, "isSeen", "(II)Z"⟩
abbrev cX7_seenBy : ByteArray := prog_9_method_7_code
def yX7_seenBy : MethodName := ⟨RX7, "seenBy", "(I)I"⟩
abbrev cX7_enviedBy : ByteArray := prog_9_method_8_code
def yX7_enviedBy : MethodName := ⟨RX7, "enviedBy", "(I)I"⟩
abbrev cX7_nextNoteOf : ByteArray := prog_9_method_9_code
def yX7_nextNoteOf : MethodName := ⟨RX7, "nextNoteOf", "(I)I"⟩
abbrev cX7_goOn : ByteArray := prog_9_method_10_code
def yX7_goOn : MethodName := ⟨RX7, "goOn", "(I)V"⟩
abbrev cX7_give : ByteArray := prog_9_method_11_code
def yX7_give : MethodName := ⟨RX7, "give", "(II)V"⟩
abbrev cX7_swapSeats : ByteArray := prog_9_method_12_code
def yX7_swapSeats : MethodName := ⟨RX7, "swapSeats", "(II)V"⟩
abbrev cX7_takeVoices : ByteArray := prog_9_method_13_code
def yX7_takeVoices : MethodName := ⟨RX7, "takeVoices", "()V"⟩
abbrev cX7_turnHeldOn : ByteArray := prog_9_method_14_code
def yX7_turnHeldOn : MethodName := ⟨RX7, "turnHeldOn", "(I)V"⟩
abbrev cX7_whoIsAt : ByteArray := prog_9_method_15_code
def yX7_whoIsAt : MethodName := ⟨RX7, "whoIsAt", "(I)I"⟩
abbrev cX7_seatsTaken : ByteArray := prog_9_method_16_code
def yX7_seatsTaken : MethodName := ⟨RX7, "seatsTaken", "()I"⟩
abbrev cX7_notesSung : ByteArray := prog_9_method_17_code
def yX7_notesSung : MethodName := ⟨RX7, "notesSung", "()I"⟩
abbrev cX7_bitsOf : ByteArray := prog_9_method_18_code
def yX7_bitsOf : MethodName := ⟨RX7, "bitsOf", "([I)I"⟩
abbrev cX7_richness : ByteArray := prog_9_method_19_code
def yX7_richness : MethodName := ⟨RX7, "richness", "()I"⟩
abbrev cX7_howManySing : ByteArray := prog_9_method_20_code
def yX7_howManySing : MethodName := ⟨RX7, "howManySing", "(I)I"⟩
abbrev cX7_goodsOfAll : ByteArray := prog_9_method_21_code
def yX7_goodsOfAll : MethodName := ⟨RX7, "goodsOfAll", "()I"⟩
abbrev cX7_envious : ByteArray := prog_9_method_22_code
def yX7_envious : MethodName := ⟨RX7, "envious", "()I"⟩
abbrev cX7_notesAsNumber : ByteArray := prog_9_method_23_code
def yX7_notesAsNumber : MethodName := ⟨RX7, "notesAsNumber", "()I"⟩
def RX8 : String := "JealousChoir$Years"
def TX8 : u_T := fun k => match k with
  | 0 => ("JealousChoir$Years", "now", "LJealousChoir$Stand;", true)
  | 1 => ("JealousChoir$Years", "trial", "LJealousChoir$Stand;", true)
  | _ => ("JealousChoir$Years", "x", "J", false)
def tyX8 : Nat → FieldType := fun k => match k with
  | 0 => .object "JealousChoir$Stand"
  | 1 => .object "JealousChoir$Stand"
  | _ => .long
abbrev wsX80 : List Cond := u_ws RX8 TX8 3
theorem nmX8 : ∀ a, a < 3 → ∀ b, b < 3 → a ≠ b → (TX8 a).2.1 ≠ (TX8 b).2.1 := by decide +kernel
theorem tyX8_ok : ∀ k, k < 3 → parseFieldDescriptor (TX8 k).2.2.1 = some (tyX8 k) := by decide +kernel
abbrev cX8_init : ByteArray := prog_10_method_1_code
def yX8_init : MethodName := ⟨RX8, "<init>", "(LJealousChoir$Stand;LJealousChoir$Stand;)V"⟩
abbrev cX8_goThrough : ByteArray := prog_10_method_2_code
def yX8_goThrough : MethodName := ⟨RX8, "goThrough", "(I)I"⟩
abbrev cX8_happen : ByteArray := prog_10_method_3_code
def yX8_happen : MethodName := ⟨RX8, "happen", "(I)V"⟩
def RX9 : String := "JealousChoir"
def TX9 : u_T := fun k => match k with
  | 0 => ("JealousChoir", "script", "LJealousChoir$Script;", true)
  | 1 => ("JealousChoir", "roll", "LJealousChoir$Roll;", true)
  | 2 => ("JealousChoir", "now", "LJealousChoir$Stand;", true)
  | 3 => ("JealousChoir", "trial", "LJealousChoir$Stand;", true)
  | 4 => ("JealousChoir", "acts", "LJealousChoir$ActRow;", true)
  | 5 => ("JealousChoir", "shelf", "LJealousChoir$Shelf;", true)
  | 6 => ("JealousChoir", "hearsay", "LJealousChoir$Hearsay;", true)
  | 7 => ("JealousChoir", "forecast", "LJealousChoir$Forecast;", true)
  | 8 => ("JealousChoir", "chances", "LJealousChoir$Chances;", true)
  | _ => ("JealousChoir", "ahead", "LJealousChoir$Years;", true)
def tyX9 : Nat → FieldType := fun k => match k with
  | 0 => .object "JealousChoir$Script"
  | 1 => .object "JealousChoir$Roll"
  | 2 => .object "JealousChoir$Stand"
  | 3 => .object "JealousChoir$Stand"
  | 4 => .object "JealousChoir$ActRow"
  | 5 => .object "JealousChoir$Shelf"
  | 6 => .object "JealousChoir$Hearsay"
  | 7 => .object "JealousChoir$Forecast"
  | 8 => .object "JealousChoir$Chances"
  | _ => .object "JealousChoir$Years"
abbrev wsX90 : List Cond := u_ws RX9 TX9 10
theorem nmX9 : ∀ a, a < 10 → ∀ b, b < 10 → a ≠ b → (TX9 a).2.1 ≠ (TX9 b).2.1 := by decide +kernel
theorem tyX9_ok : ∀ k, k < 10 → parseFieldDescriptor (TX9 k).2.2.1 = some (tyX9 k) := by decide +kernel
abbrev cX9_init : ByteArray := prog_1_method_1_code
def yX9_init : MethodName := ⟨RX9, "<init>", "()V"⟩
abbrev cX9_write : ByteArray := prog_1_method_2_code
def yX9_write : MethodName := ⟨RX9, "write", "(I)I"⟩
abbrev cX9_wipe : ByteArray := prog_1_method_3_code
def yX9_wipe : MethodName := ⟨RX9, "wipe", "()I"⟩
abbrev cX9_fault : ByteArray := prog_1_method_4_code
def yX9_fault : MethodName := ⟨RX9, "fault", "()I"⟩
abbrev cX9_choir : ByteArray := prog_1_method_5_code
def yX9_choir : MethodName := ⟨RX9, "choir", "()I"⟩
abbrev cX9_singer : ByteArray := prog_1_method_6_code
def yX9_singer : MethodName := ⟨RX9, "singer", "(II)I"⟩
abbrev cX9_seat : ByteArray := prog_1_method_7_code
def yX9_seat : MethodName := ⟨RX9, "seat", "(I)I"⟩
abbrev cX9_bar : ByteArray := prog_1_method_8_code
def yX9_bar : MethodName := ⟨RX9, "bar", "()I"⟩
abbrev cX9_gift : ByteArray := prog_1_method_9_code
def yX9_gift : MethodName := ⟨RX9, "gift", "(II)I"⟩
abbrev cX9_change : ByteArray := prog_1_method_10_code
def yX9_change : MethodName := ⟨RX9, "change", "(II)I"⟩
abbrev cX9_pitch : ByteArray := prog_1_method_11_code
def yX9_pitch : MethodName := ⟨RX9, "pitch", "()I"⟩
abbrev cX9_hold : ByteArray := prog_1_method_12_code
def yX9_hold : MethodName := ⟨RX9, "hold", "(I)I"⟩
abbrev cX9_undo : ByteArray := prog_1_method_13_code
def yX9_undo : MethodName := ⟨RX9, "undo", "()I"⟩
abbrev cX9_sings : ByteArray := prog_1_method_14_code
def yX9_sings : MethodName := ⟨RX9, "sings", "(II)I"⟩
abbrev cX9_notes : ByteArray := prog_1_method_15_code
def yX9_notes : MethodName := ⟨RX9, "notes", "(I)I"⟩
abbrev cX9_round : ByteArray := prog_1_method_16_code
def yX9_round : MethodName := ⟨RX9, "round", "(I)I"⟩
abbrev cX9_unison : ByteArray := prog_1_method_17_code
def yX9_unison : MethodName := ⟨RX9, "unison", "()I"⟩
abbrev cX9_gets : ByteArray := prog_1_method_18_code
def yX9_gets : MethodName := ⟨RX9, "gets", "(IIII)I"⟩
abbrev cX9_best : ByteArray := prog_1_method_19_code
def yX9_best : MethodName := ⟨RX9, "best", "(II)I"⟩
abbrev cX9_judge : ByteArray := prog_1_method_20_code
def yX9_judge : MethodName := ⟨RX9, "judge", "(IJ)I"⟩
abbrev cX9_hear : ByteArray := prog_1_method_21_code
def yX9_hear : MethodName := ⟨RX9, "hear", "(III)I"⟩
abbrev cX9_unhear : ByteArray := prog_1_method_22_code
def yX9_unhear : MethodName := ⟨RX9, "unhear", "()I"⟩
abbrev cX9_had : ByteArray := prog_1_method_23_code
def yX9_had : MethodName := ⟨RX9, "had", "(I)I"⟩
abbrev cX9_share : ByteArray := prog_1_method_24_code
def yX9_share : MethodName := ⟨RX9, "share", "(IZ)I"⟩
abbrev cX9_rests : ByteArray := prog_1_method_25_code
def yX9_rests : MethodName := ⟨RX9, "rests", "(III)I"⟩
abbrev cX9_hoarse : ByteArray := prog_1_method_26_code
def yX9_hoarse : MethodName := ⟨RX9, "hoarse", "(IIZ)I"⟩
abbrev cX9_seed : ByteArray := prog_1_method_27_code
def yX9_seed : MethodName := ⟨RX9, "seed", "(J)J"⟩
abbrev cX9_years : ByteArray := prog_1_method_28_code
def yX9_years : MethodName := ⟨RX9, "years", "(I)I"⟩
abbrev cX9_keep : ByteArray := prog_1_method_29_code
def yX9_keep : MethodName := ⟨RX9, "keep", "(I)I"⟩
abbrev cX9_again : ByteArray := prog_1_method_30_code
def yX9_again : MethodName := ⟨RX9, "again", "(I)I"⟩
abbrev cX9_count : ByteArray := prog_1_method_31_code
def yX9_count : MethodName := ⟨RX9, "count", "(I)I"⟩
abbrev cX9_isWithin : ByteArray := prog_1_method_32_code
def yX9_isWithin : MethodName := ⟨RX9, "isWithin", "(III)Z"⟩
abbrev cX9_withoutDoings : ByteArray := prog_1_method_33_code
def yX9_withoutDoings : MethodName := ⟨RX9, "withoutDoings", "(JI)J"⟩
abbrev cX9_sideOfFraction : ByteArray := prog_1_method_34_code
def yX9_sideOfFraction : MethodName := ⟨RX9, "sideOfFraction", "(IIZ)I"⟩
abbrev cX9_greatestDivisor : ByteArray := prog_1_method_35_code
def yX9_greatestDivisor : MethodName := ⟨RX9, "greatestDivisor", "(II)I"⟩
abbrev cX9_power : ByteArray := prog_1_method_36_code
def yX9_power : MethodName := ⟨RX9, "power", "(II)I"⟩
def RX10 : String := "JealousChoirModel"
def TX10 : u_T := fun k => match k with
  | 0 => ("JealousChoirModel", "singers", "I", false)
  | 1 => ("JealousChoirModel", "voice", "[I", true)
  | 2 => ("JealousChoirModel", "range", "[I", true)
  | 3 => ("JealousChoirModel", "kind", "[I", true)
  | 4 => ("JealousChoirModel", "now", "[I", true)
  | 5 => ("JealousChoirModel", "readSinger", "[I", true)
  | 6 => ("JealousChoirModel", "readSingers", "I", false)
  | 7 => ("JealousChoirModel", "readSeats", "I", false)
  | 8 => ("JealousChoirModel", "text", "[I", true)
  | 9 => ("JealousChoirModel", "length", "I", false)
  | 10 => ("JealousChoirModel", "at", "I", false)
  | 11 => ("JealousChoirModel", "faultAt", "I", false)
  | 12 => ("JealousChoirModel", "there", "I", false)
  | 13 => ("JealousChoirModel", "then", "[I", true)
  | 14 => ("JealousChoirModel", "acts", "I", false)
  | 15 => ("JealousChoirModel", "next", "I", false)
  | 16 => ("JealousChoirModel", "row", "[I", true)
  | 17 => ("JealousChoirModel", "sung", "[I", true)
  | 18 => ("JealousChoirModel", "heard", "I", false)
  | 19 => ("JealousChoirModel", "heardOf", "[I", true)
  | 20 => ("JealousChoirModel", "heardBars", "[I", true)
  | 21 => ("JealousChoirModel", "heardNote", "[I", true)
  | 22 => ("JealousChoirModel", "seed", "J", false)
  | 23 => ("JealousChoirModel", "isKept", "[Z", true)
  | _ => ("JealousChoirModel", "kept", "[I", true)
def tyX10 : Nat → FieldType := fun k => match k with
  | 0 => .int
  | 1 => .array .int
  | 2 => .array .int
  | 3 => .array .int
  | 4 => .array .int
  | 5 => .array .int
  | 6 => .int
  | 7 => .int
  | 8 => .array .int
  | 9 => .int
  | 10 => .int
  | 11 => .int
  | 12 => .int
  | 13 => .array .int
  | 14 => .int
  | 15 => .int
  | 16 => .array .int
  | 17 => .array .int
  | 18 => .int
  | 19 => .array .int
  | 20 => .array .int
  | 21 => .array .int
  | 22 => .long
  | 23 => .array .boolean
  | _ => .array .int
abbrev wsX100 : List Cond := u_ws RX10 TX10 25
theorem nmX10 : ∀ a, a < 25 → ∀ b, b < 25 → a ≠ b → (TX10 a).2.1 ≠ (TX10 b).2.1 := by decide +kernel
theorem tyX10_ok : ∀ k, k < 25 → parseFieldDescriptor (TX10 k).2.2.1 = some (tyX10 k) := by decide +kernel
abbrev cX10_init : ByteArray := prog_12_method_1_code
def yX10_init : MethodName := ⟨RX10, "<init>", "()V"⟩
abbrev cX10_in : ByteArray := prog_12_method_3_code
def yX10_in : MethodName := ⟨RX10, "in", "(JJJ)Z"⟩
abbrev cX10_has : ByteArray := prog_12_method_4_code
def yX10_has : MethodName := ⟨RX10, "has", "(II)Z"⟩
abbrev cX10_ones : ByteArray := prog_12_method_5_code
def yX10_ones : MethodName := ⟨RX10, "ones", "(I)I"⟩
abbrev cX10_write : ByteArray := prog_12_method_6_code
def yX10_write : MethodName := ⟨RX10, "write", "(I)I"⟩
abbrev cX10_wipe : ByteArray := prog_12_method_7_code
def yX10_wipe : MethodName := ⟨RX10, "wipe", "()I"⟩
abbrev cX10_figureOf : ByteArray := prog_12_method_8_code
def yX10_figureOf : MethodName := ⟨RX10, "figureOf", "(I)I"⟩
abbrev cX10_readText : ByteArray := prog_12_method_9_code
def yX10_readText : MethodName := ⟨RX10, "readText", "()I"⟩
abbrev cX10_readPart : ByteArray := prog_12_method_10_code
def yX10_readPart : MethodName := ⟨RX10, "readPart", "(I)V"⟩
abbrev cX10_fault : ByteArray := prog_12_method_11_code
def yX10_fault : MethodName := ⟨RX10, "fault", "()I"⟩
abbrev cX10_choir : ByteArray := prog_12_method_12_code
def yX10_choir : MethodName := ⟨RX10, "choir", "()I"⟩
abbrev cX10_isSinger : ByteArray := prog_12_method_13_code
def yX10_isSinger : MethodName := ⟨RX10, "isSinger", "(I)Z"⟩
abbrev cX10_seesOf : ByteArray := prog_12_method_14_code
def yX10_seesOf : MethodName := ⟨RX10, "seesOf", "(II)I"⟩
abbrev cX10_kindNow : ByteArray := prog_12_method_15_code
def yX10_kindNow : MethodName := ⟨RX10, "kindNow", "(II)I"⟩
abbrev cX10_enviesOf : ByteArray := prog_12_method_16_code
def yX10_enviesOf : MethodName := ⟨RX10, "enviesOf", "(II)I"⟩
abbrev cX10_noteThen : ByteArray := prog_12_method_17_code
def yX10_noteThen : MethodName := ⟨RX10, "noteThen", "(II)I"⟩
abbrev cX10_passOn : ByteArray := prog_12_method_18_code
def yX10_passOn : MethodName := ⟨RX10, "passOn", "(I)V"⟩
abbrev cX10_notesOn : ByteArray := prog_12_method_19_code
def yX10_notesOn : MethodName := ⟨RX10, "notesOn", "(I)I"⟩
abbrev cX10_pitchOn : ByteArray := prog_12_method_20_code
def yX10_pitchOn : MethodName := ⟨RX10, "pitchOn", "(I)V"⟩
abbrev cX10_singer : ByteArray := prog_12_method_21_code
def yX10_singer : MethodName := ⟨RX10, "singer", "(II)I"⟩
abbrev cX10_whoAt : ByteArray := prog_12_method_22_code
def yX10_whoAt : MethodName := ⟨RX10, "whoAt", "(I)I"⟩
abbrev cX10_seat : ByteArray := prog_12_method_23_code
def yX10_seat : MethodName := ⟨RX10, "seat", "(I)I"⟩
abbrev cX10_keepAct : ByteArray := prog_12_method_24_code
def yX10_keepAct : MethodName := ⟨RX10, "keepAct", "()V"⟩
abbrev cX10_bar : ByteArray := prog_12_method_25_code
def yX10_bar : MethodName := ⟨RX10, "bar", "()I"⟩
abbrev cX10_giveOn : ByteArray := prog_12_method_26_code
def yX10_giveOn : MethodName := ⟨RX10, "giveOn", "(III)V"⟩
abbrev cX10_gift : ByteArray := prog_12_method_27_code
def yX10_gift : MethodName := ⟨RX10, "gift", "(II)I"⟩
abbrev cX10_changeOn : ByteArray := prog_12_method_28_code
def yX10_changeOn : MethodName := ⟨RX10, "changeOn", "(III)V"⟩
abbrev cX10_change : ByteArray := prog_12_method_29_code
def yX10_change : MethodName := ⟨RX10, "change", "(II)I"⟩
abbrev cX10_pitch : ByteArray := prog_12_method_30_code
def yX10_pitch : MethodName := ⟨RX10, "pitch", "()I"⟩
abbrev cX10_hold : ByteArray := prog_12_method_31_code
def yX10_hold : MethodName := ⟨RX10, "hold", "(I)I"⟩
abbrev cX10_undo : ByteArray := prog_12_method_32_code
def yX10_undo : MethodName := ⟨RX10, "undo", "()I"⟩
abbrev cX10_layTrial : ByteArray := prog_12_method_33_code
def yX10_layTrial : MethodName := ⟨RX10, "layTrial", "()V"⟩
abbrev cX10_goOn : ByteArray := prog_12_method_34_code
def yX10_goOn : MethodName := ⟨RX10, "goOn", "(I)V"⟩
abbrev cX10_sings : ByteArray := prog_12_method_35_code
def yX10_sings : MethodName := ⟨RX10, "sings", "(II)I"⟩
abbrev cX10_notes : ByteArray := prog_12_method_36_code
def yX10_notes : MethodName := ⟨RX10, "notes", "(I)I"⟩
abbrev cX10_singAll : ByteArray := prog_12_method_37_code
def yX10_singAll : MethodName := ⟨RX10, "singAll", "()V"⟩
abbrev cX10_round : ByteArray := prog_12_method_38_code
def yX10_round : MethodName := ⟨RX10, "round", "(I)I"⟩
abbrev cX10_unison : ByteArray := prog_12_method_39_code
def yX10_unison : MethodName := ⟨RX10, "unison", "()I"⟩
abbrev cX10_isSung : ByteArray := prog_12_method_40_code
def yX10_isSung : MethodName := ⟨RX10, "isSung", "(IIIII)Z"⟩
abbrev cX10_leastGift : ByteArray := prog_12_method_41_code
def yX10_leastGift : MethodName := ⟨RX10, "leastGift", "(III)I"⟩
abbrev cX10_gets : ByteArray := prog_12_method_42_code
def yX10_gets : MethodName := ⟨RX10, "gets", "(IIII)I"⟩
abbrev cX10_notesBy : ByteArray := prog_12_method_43_code
def yX10_notesBy : MethodName := ⟨RX10, "notesBy", "(III)I"⟩
abbrev cX10_best : ByteArray := prog_12_method_44_code
def yX10_best : MethodName := ⟨RX10, "best", "(II)I"⟩
abbrev cX10_tryThing : ByteArray := prog_12_method_45_code
def yX10_tryThing : MethodName := ⟨RX10, "tryThing", "(III)Z"⟩
abbrev cX10_thousandTo : ByteArray := prog_12_method_46_code
def yX10_thousandTo : MethodName := ⟨RX10, "thousandTo", "(I)J"⟩
abbrev cX10_judge : ByteArray := prog_12_method_47_code
def yX10_judge : MethodName := ⟨RX10, "judge", "(IJ)I"⟩
abbrev cX10_hear : ByteArray := prog_12_method_48_code
def yX10_hear : MethodName := ⟨RX10, "hear", "(III)I"⟩
abbrev cX10_unhear : ByteArray := prog_12_method_49_code
def yX10_unhear : MethodName := ⟨RX10, "unhear", "()I"⟩
abbrev cX10_mayHave : ByteArray := prog_12_method_50_code
def yX10_mayHave : MethodName := ⟨RX10, "mayHave", "(II)Z"⟩
abbrev cX10_had : ByteArray := prog_12_method_51_code
def yX10_had : MethodName := ⟨RX10, "had", "(I)I"⟩
abbrev cX10_factorial : ByteArray := prog_12_method_52_code
def yX10_factorial : MethodName := ⟨RX10, "factorial", "(I)I"⟩
abbrev cX10_common : ByteArray := prog_12_method_53_code
def yX10_common : MethodName := ⟨RX10, "common", "(II)I"⟩
abbrev cX10_notesOf : ByteArray := prog_12_method_54_code
def yX10_notesOf : MethodName := ⟨RX10, "notesOf", "(II)I"⟩
abbrev cX10_share : ByteArray := prog_12_method_55_code
def yX10_share : MethodName := ⟨RX10, "share", "(IZ)I"⟩
abbrev cX10_gain : ByteArray := prog_12_method_56_code
def yX10_gain : MethodName := ⟨RX10, "gain", "(III)I"⟩
abbrev cX10_isRest : ByteArray := prog_12_method_57_code
def yX10_isRest : MethodName := ⟨RX10, "isRest", "(IIII)Z"⟩
abbrev cX10_rests : ByteArray := prog_12_method_58_code
def yX10_rests : MethodName := ⟨RX10, "rests", "(III)I"⟩
abbrev cX10_power : ByteArray := prog_12_method_59_code
def yX10_power : MethodName := ⟨RX10, "power", "(II)I"⟩
abbrev cX10_hoarse : ByteArray := prog_12_method_60_code
def yX10_hoarse : MethodName := ⟨RX10, "hoarse", "(IIZ)I"⟩
abbrev cX10_seed : ByteArray := prog_12_method_61_code
def yX10_seed : MethodName := ⟨RX10, "seed", "(J)J"⟩
abbrev cX10_years : ByteArray := prog_12_method_62_code
def yX10_years : MethodName := ⟨RX10, "years", "(I)I"⟩
abbrev cX10_keep : ByteArray := prog_12_method_63_code
def yX10_keep : MethodName := ⟨RX10, "keep", "(I)I"⟩
abbrev cX10_again : ByteArray := prog_12_method_64_code
def yX10_again : MethodName := ⟨RX10, "again", "(I)I"⟩
abbrev cX10_takenSeats : ByteArray := prog_12_method_65_code
def yX10_takenSeats : MethodName := ⟨RX10, "takenSeats", "()I"⟩
abbrev cX10_goodsOfAll : ByteArray := prog_12_method_66_code
def yX10_goodsOfAll : MethodName := ⟨RX10, "goodsOfAll", "()I"⟩
abbrev cX10_jealous : ByteArray := prog_12_method_67_code
def yX10_jealous : MethodName := ⟨RX10, "jealous", "()I"⟩
abbrev cX10_count : ByteArray := prog_12_method_68_code
def yX10_count : MethodName := ⟨RX10, "count", "(I)I"⟩
def RJ6 : String := "java/lang/Integer"
def TJ6 : u_T := fun k => match k with
  | _ => ("", "", "", false)
def tyJ6 : Nat → FieldType := fun k => match k with
  | _ => .int
abbrev wsJ60 : List Cond := u_ws RJ6 TJ6 0
theorem nmJ6 : ∀ a, a < 0 → ∀ b, b < 0 → a ≠ b → (TJ6 a).2.1 ≠ (TJ6 b).2.1 := by decide +kernel
theorem tyJ6_ok : ∀ k, k < 0 → parseFieldDescriptor (TJ6 k).2.2.1 = some (tyJ6 k) := by decide +kernel
abbrev cJ6_bitCount_0f7a4 : ByteArray := prog_13_method_49_code
def yJ6_bitCount_0f7a4 : MethodName := ⟨RJ6, "bitCount", "(I)I"⟩
def RJ9 : String := "java/lang/Math"
def TJ9 : u_T := fun k => match k with
  | _ => ("", "", "", false)
def tyJ9 : Nat → FieldType := fun k => match k with
  | _ => .int
abbrev wsJ90 : List Cond := u_ws RJ9 TJ9 0
theorem nmJ9 : ∀ a, a < 0 → ∀ b, b < 0 → a ≠ b → (TJ9 a).2.1 ≠ (TJ9 b).2.1 := by decide +kernel
theorem tyJ9_ok : ∀ k, k < 0 → parseFieldDescriptor (TJ9 k).2.2.1 = some (tyJ9 k) := by decide +kernel
abbrev cJ9_abs_0f7a4 : ByteArray := prog_14_method_59_code
def yJ9_abs_0f7a4 : MethodName := ⟨RJ9, "abs", "(I)I"⟩
abbrev cJ9_max_7cf53 : ByteArray := prog_14_method_65_code
def yJ9_max_7cf53 : MethodName := ⟨RJ9, "max", "(II)I"⟩
abbrev cJ9_min_7cf53 : ByteArray := prog_14_method_69_code
def yJ9_min_7cf53 : MethodName := ⟨RJ9, "min", "(II)I"⟩
def RJ10 : String := "java/lang/System"
def TJ10 : u_T := fun k => match k with
  | _ => ("", "", "", false)
def tyJ10 : Nat → FieldType := fun k => match k with
  | _ => .int
abbrev wsJ100 : List Cond := u_ws RJ10 TJ10 0
theorem nmJ10 : ∀ a, a < 0 → ∀ b, b < 0 → a ≠ b → (TJ10 a).2.1 ≠ (TJ10 b).2.1 := by decide +kernel
theorem tyJ10_ok : ∀ k, k < 0 → parseFieldDescriptor (TJ10 k).2.2.1 = some (tyJ10 k) := by decide +kernel
def RL : String := "JealousChoirLaw"
abbrev cL_law : ByteArray := code
def yL_law : MethodName := ⟨RL, "law", "([I)Z"⟩
abbrev vwCl : List vw_C := [(RX0, TX0, 3), (RX1, TX1, 6), (RX2, TX2, 4), (RX3, TX3, 4), (RX4, TX4, 4), (RX5, TX5, 2), (RX6, TX6, 2), (RX7, TX7, 8), (RX8, TX8, 3), (RX9, TX9, 10), (RX10, TX10, 25)]
set_option maxRecDepth 20000 in
theorem inX0 : ∀ w ∈ wsX00, w ∈ lw_tbl := by decide +kernel
set_option maxRecDepth 20000 in
theorem inX1 : ∀ w ∈ wsX10, w ∈ lw_tbl := by decide +kernel
set_option maxRecDepth 20000 in
theorem inX2 : ∀ w ∈ wsX20, w ∈ lw_tbl := by decide +kernel
set_option maxRecDepth 20000 in
theorem inX3 : ∀ w ∈ wsX30, w ∈ lw_tbl := by decide +kernel
set_option maxRecDepth 20000 in
theorem inX4 : ∀ w ∈ wsX40, w ∈ lw_tbl := by decide +kernel
set_option maxRecDepth 20000 in
theorem inX5 : ∀ w ∈ wsX50, w ∈ lw_tbl := by decide +kernel
set_option maxRecDepth 20000 in
theorem inX6 : ∀ w ∈ wsX60, w ∈ lw_tbl := by decide +kernel
set_option maxRecDepth 20000 in
theorem inX7 : ∀ w ∈ wsX70, w ∈ lw_tbl := by decide +kernel
set_option maxRecDepth 20000 in
theorem inX8 : ∀ w ∈ wsX80, w ∈ lw_tbl := by decide +kernel
set_option maxRecDepth 20000 in
theorem inX9 : ∀ w ∈ wsX90, w ∈ lw_tbl := by decide +kernel
set_option maxRecDepth 20000 in
theorem inX10 : ∀ w ∈ wsX100, w ∈ lw_tbl := by decide +kernel
