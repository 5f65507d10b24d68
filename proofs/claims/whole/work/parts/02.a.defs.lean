/-! ===== BEGIN words of one list among another's, by their places ===== -/
theorem goodIn_r {big : List Cond} (ws : List Cond) (ps : List Nat) (hp : ws = ps.filterMap (fun i => big[i]?)) (h : ws.all goodWord = true) : GoodIn big ws := by
  intro w hw
  have h1 := List.all_eq_true.mp h w hw
  rw [hp] at hw
  obtain ⟨i, -, hi⟩ := List.mem_filterMap.mp hw
  have hm : w ∈ big := by first | exact List.mem_of_getElem? hi | exact List.getElem?_mem hi
  exact ⟨hm, good_of_word h1⟩
theorem goodIn_app {big a b : List Cond} (ha : GoodIn big a) (hb : GoodIn big b) : GoodIn big (a ++ b) := fun w h => (List.mem_append.mp h).elim (ha w) (hb w)
theorem goodIn_ca {big a b : List Cond} {c : Cond} (ha : GoodIn big (c :: a)) (hb : GoodIn big b) : GoodIn big (c :: (a ++ b)) := fun w h => (List.mem_cons.mp h).elim (fun e => ha w (List.mem_cons.mpr (Or.inl e))) (fun h => (List.mem_append.mp h).elim (fun h => ha w (List.mem_cons.mpr (Or.inr h))) (hb w))
theorem goodIn_sub {big ws : List Cond} (hm : ∀ w ∈ ws, w ∈ big) (h : ws.all goodWord = true) : GoodIn big ws := fun w hw => ⟨hm w hw, good_of_word (List.all_eq_true.mp h w hw)⟩
/-! ===== END ===== -/

/-! ===== BEGIN printed: names, fields, word lists, decode rows ===== -/
def RX0 : String := "OneVoice$Call"
def TX0 : u_T := fun k => match k with
  | 0 => ("OneVoice$Call", "platform", "I", true)
  | 1 => ("OneVoice$Call", "line", "I", true)
  | 2 => ("OneVoice$Call", "number", "I", true)
  | 3 => ("OneVoice$Call", "danger", "Z", true)
  | 4 => ("OneVoice$Call", "ready", "I", false)
  | 5 => ("OneVoice$Call", "stale", "I", false)
  | 6 => ("OneVoice$Call", "state", "I", false)
  | 7 => ("OneVoice$Call", "soundsSaid", "I", false)
  | 8 => ("OneVoice$Call", "began", "I", false)
  | 9 => ("OneVoice$Call", "toStop", "Z", false)
  | 10 => ("OneVoice$Call", "wordEnds", "[I", true)
  | 11 => ("OneVoice$Call", "wordCount", "I", false)
  | _ => ("OneVoice$Call", "wordsSaid", "I", false)
def tyX0 : Nat → FieldType := fun k => match k with
  | 0 => .int
  | 1 => .int
  | 2 => .int
  | 3 => .boolean
  | 4 => .int
  | 5 => .int
  | 6 => .int
  | 7 => .int
  | 8 => .int
  | 9 => .boolean
  | 10 => .array .int
  | 11 => .int
  | _ => .int
abbrev wsX00 : List Cond := u_ws RX0 TX0 13
theorem nmX0 : ∀ a, a < 13 → ∀ b, b < 13 → a ≠ b → (TX0 a).2.1 ≠ (TX0 b).2.1 := by decide +kernel
theorem tyX0_ok : ∀ k, k < 13 → parseFieldDescriptor (TX0 k).2.2.1 = some (tyX0 k) := by decide +kernel
abbrev cX0_init : ByteArray := prog_2_method_1_code
def yX0_init : MethodName := ⟨RX0, "<init>", "(IIIZ)V"⟩
abbrev cX0_isReadyAt : ByteArray := prog_2_method_2_code
def yX0_isReadyAt : MethodName := ⟨RX0, "isReadyAt", "(I)Z"⟩
abbrev cX0_start : ByteArray := prog_2_method_3_code
def yX0_start : MethodName := ⟨RX0, "start", "(ILOneVoice$Lexicon;)V"⟩
abbrev cX0_saySound : ByteArray := prog_2_method_4_code
def yX0_saySound : MethodName := ⟨RX0, "saySound", "()V"⟩
def RX1 : String := "OneVoice$Lexicon"
def TX1 : u_T := fun k => match k with
  | 0 => ("OneVoice$Lexicon", "wordSounds", "[I", true)
  | 1 => ("OneVoice$Lexicon", "wordSizes", "[I", true)
  | 2 => ("OneVoice$Lexicon", "lineParts", "[I", true)
  | 3 => ("OneVoice$Lexicon", "lineSizes", "[I", true)
  | 4 => ("OneVoice$Lexicon", "spoken", "[I", true)
  | _ => ("OneVoice$Lexicon", "spokenSize", "I", false)
def tyX1 : Nat → FieldType := fun k => match k with
  | 0 => .array .int
  | 1 => .array .int
  | 2 => .array .int
  | 3 => .array .int
  | 4 => .array .int
  | _ => .int
abbrev wsX10 : List Cond := u_ws RX1 TX1 6
theorem nmX1 : ∀ a, a < 6 → ∀ b, b < 6 → a ≠ b → (TX1 a).2.1 ≠ (TX1 b).2.1 := by decide +kernel
theorem tyX1_ok : ∀ k, k < 6 → parseFieldDescriptor (TX1 k).2.2.1 = some (tyX1 k) := by decide +kernel
abbrev cX1_init : ByteArray := prog_3_method_1_code
def yX1_init : MethodName := ⟨RX1, "<init>", "()V"⟩
abbrev cX1_tellWord : ByteArray := prog_3_method_2_code
def yX1_tellWord : MethodName := ⟨RX1, "tellWord", "(LOneVoice$Row;)V"⟩
abbrev cX1_tellLine : ByteArray := prog_3_method_3_code
def yX1_tellLine : MethodName := ⟨RX1, "tellLine", "(LOneVoice$Row;)V"⟩
abbrev cX1_knows : ByteArray := prog_3_method_4_code
def yX1_knows : MethodName := ⟨RX1, "knows", "(I)Z"⟩
abbrev cX1_soundOf : ByteArray := prog_3_method_5_code
def yX1_soundOf : MethodName := ⟨RX1, "soundOf", "(II)I"⟩
abbrev cX1_hasNumber : ByteArray := prog_3_method_6_code
def yX1_hasNumber : MethodName := ⟨RX1, "hasNumber", "(I)Z"⟩
abbrev cX1_spell : ByteArray := prog_3_method_7_code
def yX1_spell : MethodName := ⟨RX1, "spell", "(II)Z"⟩
abbrev cX1_spellNumber : ByteArray := prog_3_method_8_code
def yX1_spellNumber : MethodName := ⟨RX1, "spellNumber", "(I)V"⟩
abbrev cX1_speak : ByteArray := prog_3_method_9_code
def yX1_speak : MethodName := ⟨RX1, "speak", "(I)V"⟩
abbrev cX1_spokenLength : ByteArray := prog_3_method_10_code
def yX1_spokenLength : MethodName := ⟨RX1, "spokenLength", "()I"⟩
abbrev cX1_spokenSound : ByteArray := prog_3_method_11_code
def yX1_spokenSound : MethodName := ⟨RX1, "spokenSound", "(I)I"⟩
def RX2 : String := "OneVoice$Loudness"
def TX2 : u_T := fun k => match k with
  | _ => ("OneVoice$Loudness", "crowds", "[I", true)
def tyX2 : Nat → FieldType := fun k => match k with
  | _ => .array .int
abbrev wsX20 : List Cond := u_ws RX2 TX2 1
theorem nmX2 : ∀ a, a < 1 → ∀ b, b < 1 → a ≠ b → (TX2 a).2.1 ≠ (TX2 b).2.1 := by decide +kernel
theorem tyX2_ok : ∀ k, k < 1 → parseFieldDescriptor (TX2 k).2.2.1 = some (tyX2 k) := by decide +kernel
abbrev cX2_init : ByteArray := prog_4_method_1_code
def yX2_init : MethodName := ⟨RX2, "<init>", "()V"⟩
abbrev cX2_reached : ByteArray := prog_4_method_2_code
def yX2_reached : MethodName := ⟨RX2, "reached", "(II)I"⟩
abbrev cX2_leastPower : ByteArray := prog_4_method_3_code
def yX2_leastPower : MethodName := ⟨RX2, "leastPower", "(II)I"⟩
abbrev cX2_bestSpot : ByteArray := prog_4_method_4_code
def yX2_bestSpot : MethodName := ⟨RX2, "bestSpot", "(I)I"⟩
abbrev cX2_needed : ByteArray := prog_4_method_5_code
def yX2_needed : MethodName := ⟨RX2, "needed", "(II)I"⟩
def RX3 : String := "OneVoice$Piece"
def TX3 : u_T := fun k => match k with
  | 0 => ("OneVoice$Piece", "sounds", "I", true)
  | 1 => ("OneVoice$Piece", "size", "I", true)
  | 2 => ("OneVoice$Piece", "voice", "I", true)
  | 3 => ("OneVoice$Piece", "tones", "[I", true)
  | 4 => ("OneVoice$Piece", "wornPlaces", "I", false)
  | _ => ("OneVoice$Piece", "lostPlaces", "I", false)
def tyX3 : Nat → FieldType := fun k => match k with
  | 0 => .int
  | 1 => .int
  | 2 => .int
  | 3 => .array .int
  | 4 => .int
  | _ => .int
abbrev wsX30 : List Cond := u_ws RX3 TX3 6
theorem nmX3 : ∀ a, a < 6 → ∀ b, b < 6 → a ≠ b → (TX3 a).2.1 ≠ (TX3 b).2.1 := by decide +kernel
theorem tyX3_ok : ∀ k, k < 6 → parseFieldDescriptor (TX3 k).2.2.1 = some (tyX3 k) := by decide +kernel
abbrev cX3_init : ByteArray := prog_5_method_1_code
def yX3_init : MethodName := ⟨RX3, "<init>", "(IIIII)V"⟩
abbrev cX3_soundAt : ByteArray := prog_5_method_2_code
def yX3_soundAt : MethodName := ⟨RX3, "soundAt", "(I)I"⟩
abbrev cX3_wearAt : ByteArray := prog_5_method_3_code
def yX3_wearAt : MethodName := ⟨RX3, "wearAt", "(I)I"⟩
abbrev cX3_isDoubleOf : ByteArray := prog_5_method_4_code
def yX3_isDoubleOf : MethodName := ⟨RX3, "isDoubleOf", "(LOneVoice$Piece;)Z"⟩
abbrev cX3_says : ByteArray := prog_5_method_5_code
def yX3_says : MethodName := ⟨RX3, "says", "(II)Z"⟩
abbrev cX3_cutsAtBegin : ByteArray := prog_5_method_6_code
def yX3_cutsAtBegin : MethodName := ⟨RX3, "cutsAtBegin", "(I)I"⟩
abbrev cX3_cutsAtEnd : ByteArray := prog_5_method_7_code
def yX3_cutsAtEnd : MethodName := ⟨RX3, "cutsAtEnd", "(I)I"⟩
def RX4 : String := "OneVoice$Recorder"
def TX4 : u_T := fun k => match k with
  | 0 => ("OneVoice$Recorder", "lexicon", "LOneVoice$Lexicon;", true)
  | 1 => ("OneVoice$Recorder", "steps", "[I", true)
  | 2 => ("OneVoice$Recorder", "size", "I", false)
  | _ => ("OneVoice$Recorder", "covers", "[J", true)
def tyX4 : Nat → FieldType := fun k => match k with
  | 0 => .object "OneVoice$Lexicon"
  | 1 => .array .int
  | 2 => .int
  | _ => .array .long
abbrev wsX40 : List Cond := u_ws RX4 TX4 4
theorem nmX4 : ∀ a, a < 4 → ∀ b, b < 4 → a ≠ b → (TX4 a).2.1 ≠ (TX4 b).2.1 := by decide +kernel
theorem tyX4_ok : ∀ k, k < 4 → parseFieldDescriptor (TX4 k).2.2.1 = some (tyX4 k) := by decide +kernel
abbrev cX4_init : ByteArray := prog_6_method_1_code
def yX4_init : MethodName := ⟨RX4, "<init>", "(LOneVoice$Lexicon;)V"⟩
abbrev cX4_fewestLines : ByteArray := prog_6_method_2_code
def yX4_fewestLines : MethodName := ⟨RX4, "fewestLines", "()I"⟩
abbrev cX4_gatherNames : ByteArray := prog_6_method_3_code
def yX4_gatherNames : MethodName := ⟨RX4, "gatherNames", "()V"⟩
abbrev cX4_stepOf : ByteArray := prog_6_method_4_code
def yX4_stepOf : MethodName := ⟨RX4, "stepOf", "(II)I"⟩
abbrev cX4_need : ByteArray := prog_6_method_5_code
def yX4_need : MethodName := ⟨RX4, "need", "(I)V"⟩
abbrev cX4_bitOf : ByteArray := prog_6_method_6_code
def yX4_bitOf : MethodName := ⟨RX4, "bitOf", "(I)J"⟩
abbrev cX4_coverOfSpoken : ByteArray := prog_6_method_7_code
def yX4_coverOfSpoken : MethodName := ⟨RX4, "coverOfSpoken", "()J"⟩
abbrev cX4_coverOfSet : ByteArray := prog_6_method_8_code
def yX4_coverOfSet : MethodName := ⟨RX4, "coverOfSet", "(I)J"⟩
def RX5 : String := "OneVoice$Row"
def TX5 : u_T := fun k => match k with
  | 0 => ("OneVoice$Row", "kind", "I", false)
  | 1 => ("OneVoice$Row", "subject", "I", false)
  | 2 => ("OneVoice$Row", "items", "[I", true)
  | _ => ("OneVoice$Row", "size", "I", false)
def tyX5 : Nat → FieldType := fun k => match k with
  | 0 => .int
  | 1 => .int
  | 2 => .array .int
  | _ => .int
abbrev wsX50 : List Cond := u_ws RX5 TX5 4
theorem nmX5 : ∀ a, a < 4 → ∀ b, b < 4 → a ≠ b → (TX5 a).2.1 ≠ (TX5 b).2.1 := by decide +kernel
theorem tyX5_ok : ∀ k, k < 4 → parseFieldDescriptor (TX5 k).2.2.1 = some (tyX5 k) := by decide +kernel
abbrev cX5_init : ByteArray := prog_7_method_1_code
def yX5_init : MethodName := ⟨RX5, "<init>", "()V"⟩
def RX6 : String := "OneVoice$Sayer"
def TX6 : u_T := fun k => match k with
  | 0 => ("OneVoice$Sayer", "stock", "LOneVoice$Stock;", true)
  | 1 => ("OneVoice$Sayer", "row", "[I", true)
  | 2 => ("OneVoice$Sayer", "rowSize", "I", false)
  | 3 => ("OneVoice$Sayer", "voice", "I", false)
  | 4 => ("OneVoice$Sayer", "cutCost", "I", false)
  | 5 => ("OneVoice$Sayer", "used", "[I", true)
  | 6 => ("OneVoice$Sayer", "usedSize", "I", false)
  | 7 => ("OneVoice$Sayer", "marks", "[I", true)
  | 8 => ("OneVoice$Sayer", "rest", "[I", true)
  | 9 => ("OneVoice$Sayer", "restWays", "[I", true)
  | 10 => ("OneVoice$Sayer", "inside", "[I", true)
  | 11 => ("OneVoice$Sayer", "insideWays", "[I", true)
  | 12 => ("OneVoice$Sayer", "begun", "[I", true)
  | 13 => ("OneVoice$Sayer", "begunWays", "[I", true)
  | 14 => ("OneVoice$Sayer", "least", "I", false)
  | 15 => ("OneVoice$Sayer", "ways", "I", false)
  | 16 => ("OneVoice$Sayer", "first", "[I", true)
  | _ => ("OneVoice$Sayer", "firstSize", "I", false)
def tyX6 : Nat → FieldType := fun k => match k with
  | 0 => .object "OneVoice$Stock"
  | 1 => .array .int
  | 2 => .int
  | 3 => .int
  | 4 => .int
  | 5 => .array .int
  | 6 => .int
  | 7 => .array .int
  | 8 => .array .int
  | 9 => .array .int
  | 10 => .array .int
  | 11 => .array .int
  | 12 => .array .int
  | 13 => .array .int
  | 14 => .int
  | 15 => .int
  | 16 => .array .int
  | _ => .int
abbrev wsX60 : List Cond := u_ws RX6 TX6 18
theorem nmX6 : ∀ a, a < 18 → ∀ b, b < 18 → a ≠ b → (TX6 a).2.1 ≠ (TX6 b).2.1 := by decide +kernel
theorem tyX6_ok : ∀ k, k < 18 → parseFieldDescriptor (TX6 k).2.2.1 = some (tyX6 k) := by decide +kernel
abbrev cX6_init : ByteArray := prog_8_method_1_code
def yX6_init : MethodName := ⟨RX6, "<init>", "(LOneVoice$Stock;)V"⟩
abbrev cX6_leastJar : ByteArray := prog_8_method_2_code
def yX6_leastJar : MethodName := ⟨RX6, "leastJar", "()I"⟩
abbrev cX6_jarOfWords : ByteArray := prog_8_method_3_code
def yX6_jarOfWords : MethodName := ⟨RX6, "jarOfWords", "(LOneVoice$Lexicon;I)I"⟩
abbrev cX6_weigh : ByteArray := prog_8_method_4_code
def yX6_weigh : MethodName := ⟨RX6, "weigh", "(IJI)V"⟩
abbrev cX6_gatherTones : ByteArray := prog_8_method_5_code
def yX6_gatherTones : MethodName := ⟨RX6, "gatherTones", "()V"⟩
abbrev cX6_weighPiece : ByteArray := prog_8_method_6_code
def yX6_weighPiece : MethodName := ⟨RX6, "weighPiece", "(II)V"⟩
abbrev cX6_carryUp : ByteArray := prog_8_method_7_code
def yX6_carryUp : MethodName := ⟨RX6, "carryUp", "(I)V"⟩
abbrev cX6_carryDown : ByteArray := prog_8_method_8_code
def yX6_carryDown : MethodName := ⟨RX6, "carryDown", "(I)V"⟩
abbrev cX6_sumUp : ByteArray := prog_8_method_9_code
def yX6_sumUp : MethodName := ⟨RX6, "sumUp", "()V"⟩
abbrev cX6_offer : ByteArray := prog_8_method_10_code
def yX6_offer : MethodName := ⟨RX6, "offer", "([I[IIII)V"⟩
abbrev cX6_findFirst : ByteArray := prog_8_method_11_code
def yX6_findFirst : MethodName := ⟨RX6, "findFirst", "()V"⟩
abbrev cX6_firstBit : ByteArray := prog_8_method_12_code
def yX6_firstBit : MethodName := ⟨RX6, "firstBit", "(III)I"⟩
abbrev cX6_fewest : ByteArray := prog_8_method_13_code
def yX6_fewest : MethodName := ⟨RX6, "fewest", "(LOneVoice$Piece;III)I"⟩
def RX7 : String := "OneVoice$Station"
def TX7 : u_T := fun k => match k with
  | 0 => ("OneVoice$Station", "lexicon", "LOneVoice$Lexicon;", true)
  | 1 => ("OneVoice$Station", "sayer", "LOneVoice$Sayer;", true)
  | 2 => ("OneVoice$Station", "voices", "[I", true)
  | 3 => ("OneVoice$Station", "wishes", "[I", true)
  | 4 => ("OneVoice$Station", "reaches", "[I", true)
  | 5 => ("OneVoice$Station", "speaking", "[I", true)
  | 6 => ("OneVoice$Station", "calls", "[LOneVoice$Call;", true)
  | 7 => ("OneVoice$Station", "size", "I", false)
  | _ => ("OneVoice$Station", "ticks", "I", false)
def tyX7 : Nat → FieldType := fun k => match k with
  | 0 => .object "OneVoice$Lexicon"
  | 1 => .object "OneVoice$Sayer"
  | 2 => .array .int
  | 3 => .array .int
  | 4 => .array .int
  | 5 => .array .int
  | 6 => .array (.object "OneVoice$Call")
  | 7 => .int
  | _ => .int
abbrev wsX70 : List Cond := u_ws RX7 TX7 9
theorem nmX7 : ∀ a, a < 9 → ∀ b, b < 9 → a ≠ b → (TX7 a).2.1 ≠ (TX7 b).2.1 := by decide +kernel
theorem tyX7_ok : ∀ k, k < 9 → parseFieldDescriptor (TX7 k).2.2.1 = some (tyX7 k) := by decide +kernel
abbrev cX7_init : ByteArray := prog_9_method_1_code
def yX7_init : MethodName := ⟨RX7, "<init>", "(LOneVoice$Lexicon;LOneVoice$Sayer;)V"⟩
abbrev cX7_join : ByteArray := prog_9_method_2_code
def yX7_join : MethodName := ⟨RX7, "join", "(II)V"⟩
abbrev cX7_part : ByteArray := prog_9_method_3_code
def yX7_part : MethodName := ⟨RX7, "part", "(II)V"⟩
abbrev cX7_add : ByteArray := prog_9_method_4_code
def yX7_add : MethodName := ⟨RX7, "add", "(LOneVoice$Call;)I"⟩
abbrev cX7_giveAll : ByteArray := prog_9_method_5_code
def yX7_giveAll : MethodName := ⟨RX7, "giveAll", "(I)I"⟩
abbrev cX7_tick : ByteArray := prog_9_method_6_code
def yX7_tick : MethodName := ⟨RX7, "tick", "()V"⟩
abbrev cX7_growStale : ByteArray := prog_9_method_7_code
def yX7_growStale : MethodName := ⟨RX7, "growStale", "()V"⟩
abbrev cX7_whereDangerWaits : ByteArray := prog_9_method_8_code
def yX7_whereDangerWaits : MethodName := ⟨RX7, "whereDangerWaits", "()I"⟩
abbrev cX7_hush : ByteArray := prog_9_method_9_code
def yX7_hush : MethodName := ⟨RX7, "hush", "(I)V"⟩
abbrev cX7_beginIfStill : ByteArray := prog_9_method_10_code
def yX7_beginIfStill : MethodName := ⟨RX7, "beginIfStill", "(I)V"⟩
abbrev cX7_isReached : ByteArray := prog_9_method_11_code
def yX7_isReached : MethodName := ⟨RX7, "isReached", "(II)Z"⟩
abbrev cX7_saySounds : ByteArray := prog_9_method_12_code
def yX7_saySounds : MethodName := ⟨RX7, "saySounds", "()V"⟩
def RX8 : String := "OneVoice$Stock"
def TX8 : u_T := fun k => match k with
  | 0 => ("OneVoice$Stock", "pieces", "[LOneVoice$Piece;", true)
  | _ => ("OneVoice$Stock", "size", "I", false)
def tyX8 : Nat → FieldType := fun k => match k with
  | 0 => .array (.object "OneVoice$Piece")
  | _ => .int
abbrev wsX80 : List Cond := u_ws RX8 TX8 2
theorem nmX8 : ∀ a, a < 2 → ∀ b, b < 2 → a ≠ b → (TX8 a).2.1 ≠ (TX8 b).2.1 := by decide +kernel
theorem tyX8_ok : ∀ k, k < 2 → parseFieldDescriptor (TX8 k).2.2.1 = some (tyX8 k) := by decide +kernel
abbrev cX8_init : ByteArray := prog_10_method_1_code
def yX8_init : MethodName := ⟨RX8, "<init>", "()V"⟩
abbrev cX8_add : ByteArray := prog_10_method_2_code
def yX8_add : MethodName := ⟨RX8, "add", "(LOneVoice$Piece;)I"⟩
abbrev cX8_wear : ByteArray := prog_10_method_3_code
def yX8_wear : MethodName := ⟨RX8, "wear", "(II)I"⟩
abbrev cX8_lostInAll : ByteArray := prog_10_method_4_code
def yX8_lostInAll : MethodName := ⟨RX8, "lostInAll", "()I"⟩
abbrev cX8_mend : ByteArray := prog_10_method_5_code
def yX8_mend : MethodName := ⟨RX8, "mend", "()V"⟩
def RX9 : String := "OneVoice$Text"
def TX9 : u_T := fun k => match k with
  | 0 => ("OneVoice$Text", "bytes", "[I", true)
  | 1 => ("OneVoice$Text", "size", "I", false)
  | 2 => ("OneVoice$Text", "rows", "[LOneVoice$Row;", true)
  | 3 => ("OneVoice$Text", "rowCount", "I", false)
  | 4 => ("OneVoice$Text", "kind", "I", false)
  | 5 => ("OneVoice$Text", "begin", "I", false)
  | _ => ("OneVoice$Text", "end", "I", false)
def tyX9 : Nat → FieldType := fun k => match k with
  | 0 => .array .int
  | 1 => .int
  | 2 => .array (.object "OneVoice$Row")
  | 3 => .int
  | 4 => .int
  | 5 => .int
  | _ => .int
abbrev wsX90 : List Cond := u_ws RX9 TX9 7
theorem nmX9 : ∀ a, a < 7 → ∀ b, b < 7 → a ≠ b → (TX9 a).2.1 ≠ (TX9 b).2.1 := by decide +kernel
theorem tyX9_ok : ∀ k, k < 7 → parseFieldDescriptor (TX9 k).2.2.1 = some (tyX9 k) := by decide +kernel
abbrev cX9_init : ByteArray := prog_11_method_1_code
def yX9_init : MethodName := ⟨RX9, "<init>", "()V"⟩
abbrev cX9_append : ByteArray := prog_11_method_2_code
def yX9_append : MethodName := ⟨RX9, "append", "(JI)I"⟩
abbrev cX9_empty : ByteArray := prog_11_method_3_code
def yX9_empty : MethodName := ⟨RX9, "empty", "()I"⟩
abbrev cX9_read : ByteArray := prog_11_method_4_code
def yX9_read : MethodName := ⟨RX9, "read", "()I"⟩
abbrev cX9_step : ByteArray := prog_11_method_5_code
def yX9_step : MethodName := ⟨RX9, "step", "()V"⟩
abbrev cX9_kindOf : ByteArray := prog_11_method_6_code
def yX9_kindOf : MethodName := ⟨RX9, "kindOf", "(I)I"⟩
abbrev cX9_readRow : ByteArray := prog_11_method_7_code
def yX9_readRow : MethodName := ⟨RX9, "readRow", "(LOneVoice$Row;)Z"⟩
abbrev cX9_readSubject : ByteArray := prog_11_method_8_code
def yX9_readSubject : MethodName := ⟨RX9, "readSubject", "(LOneVoice$Row;I)Z"⟩
abbrev cX9_readSounds : ByteArray := prog_11_method_9_code
def yX9_readSounds : MethodName := ⟨RX9, "readSounds", "(LOneVoice$Row;)Z"⟩
abbrev cX9_readParts : ByteArray := prog_11_method_10_code
def yX9_readParts : MethodName := ⟨RX9, "readParts", "(LOneVoice$Row;)Z"⟩
abbrev cX9_readOther : ByteArray := prog_11_method_11_code
def yX9_readOther : MethodName := ⟨RX9, "readOther", "(LOneVoice$Row;)Z"⟩
abbrev cX9_number : ByteArray := prog_11_method_12_code
def yX9_number : MethodName := ⟨RX9, "number", "()I"⟩
abbrev cX9_isSign : ByteArray := prog_11_method_13_code
def yX9_isSign : MethodName := ⟨RX9, "isSign", "(I)Z"⟩
abbrev cX9_takes : ByteArray := prog_11_method_14_code
def yX9_takes : MethodName := ⟨RX9, "takes", "(Ljava/lang/String;)Z"⟩
def RX10 : String := "OneVoice"
def TX10 : u_T := fun k => match k with
  | 0 => ("OneVoice", "stock", "LOneVoice$Stock;", true)
  | 1 => ("OneVoice", "sayer", "LOneVoice$Sayer;", true)
  | 2 => ("OneVoice", "lexicon", "LOneVoice$Lexicon;", true)
  | 3 => ("OneVoice", "text", "LOneVoice$Text;", true)
  | 4 => ("OneVoice", "station", "LOneVoice$Station;", true)
  | 5 => ("OneVoice", "recorder", "LOneVoice$Recorder;", true)
  | _ => ("OneVoice", "loudness", "LOneVoice$Loudness;", true)
def tyX10 : Nat → FieldType := fun k => match k with
  | 0 => .object "OneVoice$Stock"
  | 1 => .object "OneVoice$Sayer"
  | 2 => .object "OneVoice$Lexicon"
  | 3 => .object "OneVoice$Text"
  | 4 => .object "OneVoice$Station"
  | 5 => .object "OneVoice$Recorder"
  | _ => .object "OneVoice$Loudness"
abbrev wsX100 : List Cond := u_ws RX10 TX10 7
theorem nmX10 : ∀ a, a < 7 → ∀ b, b < 7 → a ≠ b → (TX10 a).2.1 ≠ (TX10 b).2.1 := by decide +kernel
theorem tyX10_ok : ∀ k, k < 7 → parseFieldDescriptor (TX10 k).2.2.1 = some (tyX10 k) := by decide +kernel
abbrev cX10_init : ByteArray := prog_1_method_1_code
def yX10_init : MethodName := ⟨RX10, "<init>", "()V"⟩
abbrev cX10_piece : ByteArray := prog_1_method_2_code
def yX10_piece : MethodName := ⟨RX10, "piece", "(IIIII)I"⟩
abbrev cX10_worn : ByteArray := prog_1_method_3_code
def yX10_worn : MethodName := ⟨RX10, "worn", "(II)I"⟩
abbrev cX10_of : ByteArray := prog_1_method_4_code
def yX10_of : MethodName := ⟨RX10, "of", "(III)I"⟩
abbrev cX10_lost : ByteArray := prog_1_method_5_code
def yX10_lost : MethodName := ⟨RX10, "lost", "()I"⟩
abbrev cX10_said : ByteArray := prog_1_method_6_code
def yX10_said : MethodName := ⟨RX10, "said", "(IJII)I"⟩
abbrev cX10_bit : ByteArray := prog_1_method_7_code
def yX10_bit : MethodName := ⟨RX10, "bit", "(IJII)I"⟩
abbrev cX10_write : ByteArray := prog_1_method_8_code
def yX10_write : MethodName := ⟨RX10, "write", "(JI)I"⟩
abbrev cX10_erase : ByteArray := prog_1_method_9_code
def yX10_erase : MethodName := ⟨RX10, "erase", "()I"⟩
abbrev cX10_fault : ByteArray := prog_1_method_10_code
def yX10_fault : MethodName := ⟨RX10, "fault", "()I"⟩
abbrev cX10_told : ByteArray := prog_1_method_11_code
def yX10_told : MethodName := ⟨RX10, "told", "()I"⟩
abbrev cX10_word : ByteArray := prog_1_method_12_code
def yX10_word : MethodName := ⟨RX10, "word", "(II)I"⟩
abbrev cX10_line : ByteArray := prog_1_method_13_code
def yX10_line : MethodName := ⟨RX10, "line", "(III)I"⟩
abbrev cX10_jar : ByteArray := prog_1_method_14_code
def yX10_jar : MethodName := ⟨RX10, "jar", "(III)I"⟩
abbrev cX10_call : ByteArray := prog_1_method_15_code
def yX10_call : MethodName := ⟨RX10, "call", "(IIIIIZ)I"⟩
abbrev cX10_run : ByteArray := prog_1_method_16_code
def yX10_run : MethodName := ⟨RX10, "run", "(I)I"⟩
abbrev cX10_heard : ByteArray := prog_1_method_17_code
def yX10_heard : MethodName := ⟨RX10, "heard", "(II)I"⟩
abbrev cX10_speaks : ByteArray := prog_1_method_18_code
def yX10_speaks : MethodName := ⟨RX10, "speaks", "(I)I"⟩
abbrev cX10_voice : ByteArray := prog_1_method_19_code
def yX10_voice : MethodName := ⟨RX10, "voice", "(II)I"⟩
abbrev cX10_wish : ByteArray := prog_1_method_20_code
def yX10_wish : MethodName := ⟨RX10, "wish", "(III)I"⟩
abbrev cX10_change : ByteArray := prog_1_method_21_code
def yX10_change : MethodName := ⟨RX10, "change", "(I)I"⟩
abbrev cX10_record : ByteArray := prog_1_method_22_code
def yX10_record : MethodName := ⟨RX10, "record", "()I"⟩
abbrev cX10_crowd : ByteArray := prog_1_method_23_code
def yX10_crowd : MethodName := ⟨RX10, "crowd", "(II)I"⟩
abbrev cX10_understood : ByteArray := prog_1_method_24_code
def yX10_understood : MethodName := ⟨RX10, "understood", "(II)I"⟩
abbrev cX10_power : ByteArray := prog_1_method_25_code
def yX10_power : MethodName := ⟨RX10, "power", "(II)I"⟩
abbrev cX10_count : ByteArray := prog_1_method_26_code
def yX10_count : MethodName := ⟨RX10, "count", "(I)I"⟩
abbrev cX10_follow : ByteArray := prog_1_method_27_code
def yX10_follow : MethodName := ⟨RX10, "follow", "(LOneVoice$Row;)V"⟩
abbrev cX10_howManyTold : ByteArray := prog_1_method_28_code
def yX10_howManyTold : MethodName := ⟨RX10, "howManyTold", "([I)I"⟩
abbrev cX10_below : ByteArray := prog_1_method_29_code
def yX10_below : MethodName := ⟨RX10, "below", "(II)Z"⟩
abbrev cX10_within : ByteArray := prog_1_method_30_code
def yX10_within : MethodName := ⟨RX10, "within", "(III)Z"⟩
def RX11 : String := "OneVoiceModel"
def TX11 : u_T := fun k => match k with
  | 0 => ("OneVoiceModel", "pieces", "I", false)
  | 1 => ("OneVoiceModel", "sound", "[I", true)
  | 2 => ("OneVoiceModel", "length", "[I", true)
  | 3 => ("OneVoiceModel", "begin", "[I", true)
  | 4 => ("OneVoiceModel", "end", "[I", true)
  | 5 => ("OneVoiceModel", "voice", "[I", true)
  | 6 => ("OneVoiceModel", "wornBits", "[I", true)
  | 7 => ("OneVoiceModel", "cost", "I", false)
  | 8 => ("OneVoiceModel", "least", "[I", true)
  | 9 => ("OneVoiceModel", "ways", "[I", true)
  | 10 => ("OneVoiceModel", "row", "[I", true)
  | 11 => ("OneVoiceModel", "path", "[I", true)
  | 12 => ("OneVoiceModel", "bytes", "I", false)
  | 13 => ("OneVoiceModel", "text", "[I", true)
  | 14 => ("OneVoiceModel", "position", "I", false)
  | 15 => ("OneVoiceModel", "tokenAt", "I", false)
  | 16 => ("OneVoiceModel", "token", "J", false)
  | 17 => ("OneVoiceModel", "digits", "I", false)
  | 18 => ("OneVoiceModel", "number", "I", false)
  | 19 => ("OneVoiceModel", "faultAt", "I", false)
  | 20 => ("OneVoiceModel", "readMany", "I", false)
  | 21 => ("OneVoiceModel", "read", "[I", true)
  | 22 => ("OneVoiceModel", "wordLength", "[I", true)
  | 23 => ("OneVoiceModel", "word", "[I", true)
  | 24 => ("OneVoiceModel", "lineLength", "[I", true)
  | 25 => ("OneVoiceModel", "part", "[I", true)
  | 26 => ("OneVoiceModel", "spokenMany", "I", false)
  | 27 => ("OneVoiceModel", "spoken", "[I", true)
  | 28 => ("OneVoiceModel", "hears", "[I", true)
  | 29 => ("OneVoiceModel", "platformVoice", "[I", true)
  | 30 => ("OneVoiceModel", "wish", "[I", true)
  | 31 => ("OneVoiceModel", "ticks", "I", false)
  | 32 => ("OneVoiceModel", "calls", "I", false)
  | 33 => ("OneVoiceModel", "at", "[I", true)
  | 34 => ("OneVoiceModel", "lineOf", "[I", true)
  | 35 => ("OneVoiceModel", "value", "[I", true)
  | 36 => ("OneVoiceModel", "ready", "[I", true)
  | 37 => ("OneVoiceModel", "stale", "[I", true)
  | 38 => ("OneVoiceModel", "isDanger", "[Z", true)
  | 39 => ("OneVoiceModel", "state", "[I", true)
  | 40 => ("OneVoiceModel", "said", "[I", true)
  | 41 => ("OneVoiceModel", "begun", "[I", true)
  | 42 => ("OneVoiceModel", "isToStop", "[Z", true)
  | 43 => ("OneVoiceModel", "callLength", "[I", true)
  | 44 => ("OneVoiceModel", "wordEnds", "[I", true)
  | 45 => ("OneVoiceModel", "steps", "[I", true)
  | 46 => ("OneVoiceModel", "wanted", "[I", true)
  | _ => ("OneVoiceModel", "crowd", "[I", true)
def tyX11 : Nat → FieldType := fun k => match k with
  | 0 => .int
  | 1 => .array .int
  | 2 => .array .int
  | 3 => .array .int
  | 4 => .array .int
  | 5 => .array .int
  | 6 => .array .int
  | 7 => .int
  | 8 => .array .int
  | 9 => .array .int
  | 10 => .array .int
  | 11 => .array .int
  | 12 => .int
  | 13 => .array .int
  | 14 => .int
  | 15 => .int
  | 16 => .long
  | 17 => .int
  | 18 => .int
  | 19 => .int
  | 20 => .int
  | 21 => .array .int
  | 22 => .array .int
  | 23 => .array .int
  | 24 => .array .int
  | 25 => .array .int
  | 26 => .int
  | 27 => .array .int
  | 28 => .array .int
  | 29 => .array .int
  | 30 => .array .int
  | 31 => .int
  | 32 => .int
  | 33 => .array .int
  | 34 => .array .int
  | 35 => .array .int
  | 36 => .array .int
  | 37 => .array .int
  | 38 => .array .boolean
  | 39 => .array .int
  | 40 => .array .int
  | 41 => .array .int
  | 42 => .array .boolean
  | 43 => .array .int
  | 44 => .array .int
  | 45 => .array .int
  | 46 => .array .int
  | _ => .array .int
abbrev wsX110 : List Cond := u_ws RX11 TX11 48
theorem nmX11 : ∀ a, a < 48 → ∀ b, b < 48 → a ≠ b → (TX11 a).2.1 ≠ (TX11 b).2.1 := by decide +kernel
theorem tyX11_ok : ∀ k, k < 48 → parseFieldDescriptor (TX11 k).2.2.1 = some (tyX11 k) := by decide +kernel
abbrev cX11_init : ByteArray := prog_13_method_1_code
def yX11_init : MethodName := ⟨RX11, "<init>", "()V"⟩
abbrev cX11_in : ByteArray := prog_13_method_2_code
def yX11_in : MethodName := ⟨RX11, "in", "(III)Z"⟩
abbrev cX11_apart : ByteArray := prog_13_method_3_code
def yX11_apart : MethodName := ⟨RX11, "apart", "(II)I"⟩
abbrev cX11_piece : ByteArray := prog_13_method_4_code
def yX11_piece : MethodName := ⟨RX11, "piece", "(IIIII)I"⟩
abbrev cX11_isPiece : ByteArray := prog_13_method_5_code
def yX11_isPiece : MethodName := ⟨RX11, "isPiece", "(I)Z"⟩
abbrev cX11_worn : ByteArray := prog_13_method_6_code
def yX11_worn : MethodName := ⟨RX11, "worn", "(II)I"⟩
abbrev cX11_toneOf : ByteArray := prog_13_method_7_code
def yX11_toneOf : MethodName := ⟨RX11, "toneOf", "(II)I"⟩
abbrev cX11_isAlike : ByteArray := prog_13_method_8_code
def yX11_isAlike : MethodName := ⟨RX11, "isAlike", "(II)Z"⟩
abbrev cX11_wearOf : ByteArray := prog_13_method_9_code
def yX11_wearOf : MethodName := ⟨RX11, "wearOf", "(II)I"⟩
abbrev cX11_of : ByteArray := prog_13_method_10_code
def yX11_of : MethodName := ⟨RX11, "of", "(III)I"⟩
abbrev cX11_lost : ByteArray := prog_13_method_11_code
def yX11_lost : MethodName := ⟨RX11, "lost", "()I"⟩
abbrev cX11_isBit : ByteArray := prog_13_method_12_code
def yX11_isBit : MethodName := ⟨RX11, "isBit", "(IIIIII)Z"⟩
abbrev cX11_cutsOf : ByteArray := prog_13_method_13_code
def yX11_cutsOf : MethodName := ⟨RX11, "cutsOf", "(III)I"⟩
abbrev cX11_layOut : ByteArray := prog_13_method_14_code
def yX11_layOut : MethodName := ⟨RX11, "layOut", "(II)V"⟩
abbrev cX11_goOn : ByteArray := prog_13_method_15_code
def yX11_goOn : MethodName := ⟨RX11, "goOn", "(III)V"⟩
abbrev cX11_leastOf : ByteArray := prog_13_method_16_code
def yX11_leastOf : MethodName := ⟨RX11, "leastOf", "()I"⟩
abbrev cX11_layRow : ByteArray := prog_13_method_17_code
def yX11_layRow : MethodName := ⟨RX11, "layRow", "(JI)V"⟩
abbrev cX11_said : ByteArray := prog_13_method_18_code
def yX11_said : MethodName := ⟨RX11, "said", "(IJII)I"⟩
abbrev cX11_bit : ByteArray := prog_13_method_19_code
def yX11_bit : MethodName := ⟨RX11, "bit", "(IJII)I"⟩
abbrev cX11_write : ByteArray := prog_13_method_20_code
def yX11_write : MethodName := ⟨RX11, "write", "(JI)I"⟩
abbrev cX11_erase : ByteArray := prog_13_method_21_code
def yX11_erase : MethodName := ⟨RX11, "erase", "()I"⟩
abbrev cX11_nextToken : ByteArray := prog_13_method_22_code
def yX11_nextToken : MethodName := ⟨RX11, "nextToken", "()V"⟩
abbrev cX11_fails : ByteArray := prog_13_method_23_code
def yX11_fails : MethodName := ⟨RX11, "fails", "()Z"⟩
abbrev cX11_isNumber : ByteArray := prog_13_method_24_code
def yX11_isNumber : MethodName := ⟨RX11, "isNumber", "(III)Z"⟩
abbrev cX11_isIs : ByteArray := prog_13_method_25_code
def yX11_isIs : MethodName := ⟨RX11, "isIs", "()Z"⟩
abbrev cX11_isRow : ByteArray := prog_13_method_26_code
def yX11_isRow : MethodName := ⟨RX11, "isRow", "(I)Z"⟩
abbrev cX11_areParts : ByteArray := prog_13_method_27_code
def yX11_areParts : MethodName := ⟨RX11, "areParts", "(I)Z"⟩
abbrev cX11_areTwo : ByteArray := prog_13_method_28_code
def yX11_areTwo : MethodName := ⟨RX11, "areTwo", "(I)Z"⟩
abbrev cX11_isRowOfText : ByteArray := prog_13_method_29_code
def yX11_isRowOfText : MethodName := ⟨RX11, "isRowOfText", "(I)Z"⟩
abbrev cX11_isRead : ByteArray := prog_13_method_30_code
def yX11_isRead : MethodName := ⟨RX11, "isRead", "()Z"⟩
abbrev cX11_fault : ByteArray := prog_13_method_31_code
def yX11_fault : MethodName := ⟨RX11, "fault", "()I"⟩
abbrev cX11_doRow : ByteArray := prog_13_method_32_code
def yX11_doRow : MethodName := ⟨RX11, "doRow", "(I)V"⟩
abbrev cX11_told : ByteArray := prog_13_method_33_code
def yX11_told : MethodName := ⟨RX11, "told", "()I"⟩
abbrev cX11_word : ByteArray := prog_13_method_34_code
def yX11_word : MethodName := ⟨RX11, "word", "(II)I"⟩
abbrev cX11_isLine : ByteArray := prog_13_method_35_code
def yX11_isLine : MethodName := ⟨RX11, "isLine", "(I)Z"⟩
abbrev cX11_speak : ByteArray := prog_13_method_36_code
def yX11_speak : MethodName := ⟨RX11, "speak", "(I)V"⟩
abbrev cX11_canSpeak : ByteArray := prog_13_method_37_code
def yX11_canSpeak : MethodName := ⟨RX11, "canSpeak", "(II)Z"⟩
abbrev cX11_line : ByteArray := prog_13_method_38_code
def yX11_line : MethodName := ⟨RX11, "line", "(III)I"⟩
abbrev cX11_jarOf : ByteArray := prog_13_method_39_code
def yX11_jarOf : MethodName := ⟨RX11, "jarOf", "(II)I"⟩
abbrev cX11_jarOfAll : ByteArray := prog_13_method_40_code
def yX11_jarOfAll : MethodName := ⟨RX11, "jarOfAll", "(I)I"⟩
abbrev cX11_jar : ByteArray := prog_13_method_41_code
def yX11_jar : MethodName := ⟨RX11, "jar", "(III)I"⟩
abbrev cX11_isPlatform : ByteArray := prog_13_method_42_code
def yX11_isPlatform : MethodName := ⟨RX11, "isPlatform", "(I)Z"⟩
abbrev cX11_call : ByteArray := prog_13_method_43_code
def yX11_call : MethodName := ⟨RX11, "call", "(IIIIIZ)I"⟩
abbrev cX11_isNear : ByteArray := prog_13_method_44_code
def yX11_isNear : MethodName := ⟨RX11, "isNear", "(II)Z"⟩
abbrev cX11_isWaiting : ByteArray := prog_13_method_45_code
def yX11_isWaiting : MethodName := ⟨RX11, "isWaiting", "(I)Z"⟩
abbrev cX11_start : ByteArray := prog_13_method_46_code
def yX11_start : MethodName := ⟨RX11, "start", "(I)V"⟩
abbrev cX11_goTick : ByteArray := prog_13_method_47_code
def yX11_goTick : MethodName := ⟨RX11, "goTick", "()V"⟩
abbrev cX11_sayOne : ByteArray := prog_13_method_48_code
def yX11_sayOne : MethodName := ⟨RX11, "sayOne", "(I)V"⟩
abbrev cX11_run : ByteArray := prog_13_method_49_code
def yX11_run : MethodName := ⟨RX11, "run", "(I)I"⟩
abbrev cX11_heard : ByteArray := prog_13_method_50_code
def yX11_heard : MethodName := ⟨RX11, "heard", "(II)I"⟩
abbrev cX11_speaks : ByteArray := prog_13_method_51_code
def yX11_speaks : MethodName := ⟨RX11, "speaks", "(I)I"⟩
abbrev cX11_voice : ByteArray := prog_13_method_52_code
def yX11_voice : MethodName := ⟨RX11, "voice", "(II)I"⟩
abbrev cX11_wish : ByteArray := prog_13_method_53_code
def yX11_wish : MethodName := ⟨RX11, "wish", "(III)I"⟩
abbrev cX11_change : ByteArray := prog_13_method_54_code
def yX11_change : MethodName := ⟨RX11, "change", "(I)I"⟩
abbrev cX11_clearSteps : ByteArray := prog_13_method_55_code
def yX11_clearSteps : MethodName := ⟨RX11, "clearSteps", "([I)V"⟩
abbrev cX11_addSteps : ByteArray := prog_13_method_56_code
def yX11_addSteps : MethodName := ⟨RX11, "addSteps", "([III)V"⟩
abbrev cX11_hasNumber : ByteArray := prog_13_method_57_code
def yX11_hasNumber : MethodName := ⟨RX11, "hasNumber", "(I)Z"⟩
abbrev cX11_record : ByteArray := prog_13_method_58_code
def yX11_record : MethodName := ⟨RX11, "record", "()I"⟩
abbrev cX11_doesRecord : ByteArray := prog_13_method_59_code
def yX11_doesRecord : MethodName := ⟨RX11, "doesRecord", "(I)Z"⟩
abbrev cX11_bits : ByteArray := prog_13_method_60_code
def yX11_bits : MethodName := ⟨RX11, "bits", "(I)I"⟩
abbrev cX11_isSpot : ByteArray := prog_13_method_61_code
def yX11_isSpot : MethodName := ⟨RX11, "isSpot", "(I)Z"⟩
abbrev cX11_crowd : ByteArray := prog_13_method_62_code
def yX11_crowd : MethodName := ⟨RX11, "crowd", "(II)I"⟩
abbrev cX11_understood : ByteArray := prog_13_method_63_code
def yX11_understood : MethodName := ⟨RX11, "understood", "(II)I"⟩
abbrev cX11_powerAt : ByteArray := prog_13_method_64_code
def yX11_powerAt : MethodName := ⟨RX11, "powerAt", "(II)I"⟩
abbrev cX11_power : ByteArray := prog_13_method_65_code
def yX11_power : MethodName := ⟨RX11, "power", "(II)I"⟩
abbrev cX11_positive : ByteArray := prog_13_method_66_code
def yX11_positive : MethodName := ⟨RX11, "positive", "([I)I"⟩
abbrev cX11_count : ByteArray := prog_13_method_67_code
def yX11_count : MethodName := ⟨RX11, "count", "(I)I"⟩
def RJx145de : String := "java/io/Serializable"
def TJx145de : u_T := fun k => match k with
  | _ => ("", "", "", false)
def tyJx145de : Nat → FieldType := fun k => match k with
  | _ => .int
abbrev wsJx145de0 : List Cond := u_ws RJx145de TJx145de 0
theorem nmJx145de : ∀ a, a < 0 → ∀ b, b < 0 → a ≠ b → (TJx145de a).2.1 ≠ (TJx145de b).2.1 := by decide +kernel
theorem tyJx145de_ok : ∀ k, k < 0 → parseFieldDescriptor (TJx145de k).2.2.1 = some (tyJx145de k) := by decide +kernel
def RJx9f9b0 : String := "java/lang/CharSequence"
def TJx9f9b0 : u_T := fun k => match k with
  | _ => ("", "", "", false)
def tyJx9f9b0 : Nat → FieldType := fun k => match k with
  | _ => .int
abbrev wsJx9f9b00 : List Cond := u_ws RJx9f9b0 TJx9f9b0 0
theorem nmJx9f9b0 : ∀ a, a < 0 → ∀ b, b < 0 → a ≠ b → (TJx9f9b0 a).2.1 ≠ (TJx9f9b0 b).2.1 := by decide +kernel
theorem tyJx9f9b0_ok : ∀ k, k < 0 → parseFieldDescriptor (TJx9f9b0 k).2.2.1 = some (tyJx9f9b0 k) := by decide +kernel
def RJxb160c : String := "java/lang/Comparable"
def TJxb160c : u_T := fun k => match k with
  | _ => ("", "", "", false)
def tyJxb160c : Nat → FieldType := fun k => match k with
  | _ => .int
abbrev wsJxb160c0 : List Cond := u_ws RJxb160c TJxb160c 0
theorem nmJxb160c : ∀ a, a < 0 → ∀ b, b < 0 → a ≠ b → (TJxb160c a).2.1 ≠ (TJxb160c b).2.1 := by decide +kernel
theorem tyJxb160c_ok : ∀ k, k < 0 → parseFieldDescriptor (TJxb160c k).2.2.1 = some (tyJxb160c k) := by decide +kernel
def RJ6 : String := "java/lang/Integer"
def TJ6 : u_T := fun k => match k with
  | _ => ("", "", "", false)
def tyJ6 : Nat → FieldType := fun k => match k with
  | _ => .int
abbrev wsJ60 : List Cond := u_ws RJ6 TJ6 0
theorem nmJ6 : ∀ a, a < 0 → ∀ b, b < 0 → a ≠ b → (TJ6 a).2.1 ≠ (TJ6 b).2.1 := by decide +kernel
theorem tyJ6_ok : ∀ k, k < 0 → parseFieldDescriptor (TJ6 k).2.2.1 = some (tyJ6 k) := by decide +kernel
abbrev cJ6_bitCount_0f7a4 : ByteArray := prog_14_method_49_code
def yJ6_bitCount_0f7a4 : MethodName := ⟨RJ6, "bitCount", "(I)I"⟩
def RJ9 : String := "java/lang/Math"
def TJ9 : u_T := fun k => match k with
  | _ => ("", "", "", false)
def tyJ9 : Nat → FieldType := fun k => match k with
  | _ => .int
abbrev wsJ90 : List Cond := u_ws RJ9 TJ9 0
theorem nmJ9 : ∀ a, a < 0 → ∀ b, b < 0 → a ≠ b → (TJ9 a).2.1 ≠ (TJ9 b).2.1 := by decide +kernel
theorem tyJ9_ok : ∀ k, k < 0 → parseFieldDescriptor (TJ9 k).2.2.1 = some (tyJ9 k) := by decide +kernel
abbrev cJ9_abs_0f7a4 : ByteArray := prog_15_method_59_code
def yJ9_abs_0f7a4 : MethodName := ⟨RJ9, "abs", "(I)I"⟩
abbrev cJ9_max_7cf53 : ByteArray := prog_15_method_65_code
def yJ9_max_7cf53 : MethodName := ⟨RJ9, "max", "(II)I"⟩
abbrev cJ9_min_7cf53 : ByteArray := prog_15_method_69_code
def yJ9_min_7cf53 : MethodName := ⟨RJ9, "min", "(II)I"⟩
def RJ0 : String := "java/lang/String"
def TJ0 : u_T := fun k => match k with
  | _ => ("", "", "", false)
def tyJ0 : Nat → FieldType := fun k => match k with
  | _ => .int
abbrev wsJ00 : List Cond := u_ws RJ0 TJ0 0
theorem nmJ0 : ∀ a, a < 0 → ∀ b, b < 0 → a ≠ b → (TJ0 a).2.1 ≠ (TJ0 b).2.1 := by decide +kernel
theorem tyJ0_ok : ∀ k, k < 0 → parseFieldDescriptor (TJ0 k).2.2.1 = some (tyJ0 k) := by decide +kernel
abbrev cJ0_length_8abf5 : ByteArray := prog_16_method_54_code
def yJ0_length_8abf5 : MethodName := ⟨RJ0, "length", "()I"⟩
abbrev cJ0_charAt_5068e : ByteArray := prog_16_method_56_code
def yJ0_charAt_5068e : MethodName := ⟨RJ0, "charAt", "(I)C"⟩
abbrev cJ0_coder_7d493 : ByteArray := prog_16_method_152_code
def yJ0_coder_7d493 : MethodName := ⟨RJ0, "coder", "()B"⟩
abbrev cJ0_isLatin1_aae02 : ByteArray := prog_16_method_154_code
def yJ0_isLatin1_aae02 : MethodName := ⟨RJ0, "isLatin1", "()Z"⟩
abbrev cJ0_checkIndex_df160 : ByteArray := prog_16_method_155_code
def yJ0_checkIndex_df160 : MethodName := ⟨RJ0, "checkIndex", "(II)V"⟩
def RJ1 : String := "java/lang/StringLatin1"
def TJ1 : u_T := fun k => match k with
  | _ => ("", "", "", false)
def tyJ1 : Nat → FieldType := fun k => match k with
  | _ => .int
abbrev wsJ10 : List Cond := u_ws RJ1 TJ1 0
theorem nmJ1 : ∀ a, a < 0 → ∀ b, b < 0 → a ≠ b → (TJ1 a).2.1 ≠ (TJ1 b).2.1 := by decide +kernel
theorem tyJ1_ok : ∀ k, k < 0 → parseFieldDescriptor (TJ1 k).2.2.1 = some (tyJ1 k) := by decide +kernel
abbrev cJ1_charAt_3b067 : ByteArray := prog_17_method_2_code
def yJ1_charAt_3b067 : MethodName := ⟨RJ1, "charAt", "([BI)C"⟩
def RJ2 : String := "java/lang/StringUTF16"
def TJ2 : u_T := fun k => match k with
  | _ => ("", "", "", false)
def tyJ2 : Nat → FieldType := fun k => match k with
  | _ => .int
abbrev wsJ20 : List Cond := u_ws RJ2 TJ2 0
theorem nmJ2 : ∀ a, a < 0 → ∀ b, b < 0 → a ≠ b → (TJ2 a).2.1 ≠ (TJ2 b).2.1 := by decide +kernel
theorem tyJ2_ok : ∀ k, k < 0 → parseFieldDescriptor (TJ2 k).2.2.1 = some (tyJ2 k) := by decide +kernel
abbrev cJ2_getChar_3b067 : ByteArray := prog_18_method_5_code
def yJ2_getChar_3b067 : MethodName := ⟨RJ2, "getChar", "([BI)C"⟩
abbrev cJ2_length_9d52b : ByteArray := prog_18_method_6_code
def yJ2_length_9d52b : MethodName := ⟨RJ2, "length", "([B)I"⟩
abbrev cJ2_charAt_3b067 : ByteArray := prog_18_method_83_code
def yJ2_charAt_3b067 : MethodName := ⟨RJ2, "charAt", "([BI)C"⟩
abbrev cJ2_checkIndex_2214a : ByteArray := prog_18_method_91_code
def yJ2_checkIndex_2214a : MethodName := ⟨RJ2, "checkIndex", "(I[B)V"⟩
def RJxfd54e : String := "java/lang/constant/Constable"
def TJxfd54e : u_T := fun k => match k with
  | _ => ("", "", "", false)
def tyJxfd54e : Nat → FieldType := fun k => match k with
  | _ => .int
abbrev wsJxfd54e0 : List Cond := u_ws RJxfd54e TJxfd54e 0
theorem nmJxfd54e : ∀ a, a < 0 → ∀ b, b < 0 → a ≠ b → (TJxfd54e a).2.1 ≠ (TJxfd54e b).2.1 := by decide +kernel
theorem tyJxfd54e_ok : ∀ k, k < 0 → parseFieldDescriptor (TJxfd54e k).2.2.1 = some (tyJxfd54e k) := by decide +kernel
def RJx3cf43 : String := "java/lang/constant/ConstantDesc"
def TJx3cf43 : u_T := fun k => match k with
  | _ => ("", "", "", false)
def tyJx3cf43 : Nat → FieldType := fun k => match k with
  | _ => .int
abbrev wsJx3cf430 : List Cond := u_ws RJx3cf43 TJx3cf43 0
theorem nmJx3cf43 : ∀ a, a < 0 → ∀ b, b < 0 → a ≠ b → (TJx3cf43 a).2.1 ≠ (TJx3cf43 b).2.1 := by decide +kernel
theorem tyJx3cf43_ok : ∀ k, k < 0 → parseFieldDescriptor (TJx3cf43 k).2.2.1 = some (tyJx3cf43 k) := by decide +kernel
def RJ7 : String := "java/util/Arrays"
def TJ7 : u_T := fun k => match k with
  | _ => ("", "", "", false)
def tyJ7 : Nat → FieldType := fun k => match k with
  | _ => .int
abbrev wsJ70 : List Cond := u_ws RJ7 TJ7 0
theorem nmJ7 : ∀ a, a < 0 → ∀ b, b < 0 → a ≠ b → (TJ7 a).2.1 ≠ (TJ7 b).2.1 := by decide +kernel
theorem tyJ7_ok : ∀ k, k < 0 → parseFieldDescriptor (TJ7 k).2.2.1 = some (tyJ7 k) := by decide +kernel
abbrev cJ7_fill_53178 : ByteArray := prog_19_method_103_code
def yJ7_fill_53178 : MethodName := ⟨RJ7, "fill", "([II)V"⟩
def RJ3 : String := "jdk/internal/util/Preconditions"
def TJ3 : u_T := fun k => match k with
  | _ => ("", "", "", false)
def tyJ3 : Nat → FieldType := fun k => match k with
  | _ => .int
abbrev wsJ30 : List Cond := u_ws RJ3 TJ3 0
theorem nmJ3 : ∀ a, a < 0 → ∀ b, b < 0 → a ≠ b → (TJ3 a).2.1 ≠ (TJ3 b).2.1 := by decide +kernel
theorem tyJ3_ok : ∀ k, k < 0 → parseFieldDescriptor (TJ3 k).2.2.1 = some (tyJ3 k) := by decide +kernel
abbrev cJ3_checkIndex_8e157 : ByteArray := prog_20_method_11_code
def yJ3_checkIndex_8e157 : MethodName := ⟨RJ3, "checkIndex", "(IILjava/util/function/BiFunction;)I"⟩
def RL : String := "OneVoiceLaw"
abbrev cL_law : ByteArray := code
def yL_law : MethodName := ⟨RL, "law", "([I)Z"⟩
abbrev vwCl : List vw_C := [(RX0, TX0, 13), (RX1, TX1, 6), (RX2, TX2, 1), (RX3, TX3, 6), (RX4, TX4, 4), (RX5, TX5, 4), (RX6, TX6, 18), (RX7, TX7, 9), (RX8, TX8, 2), (RX9, TX9, 7), (RX10, TX10, 7), (RX11, TX11, 48)]
