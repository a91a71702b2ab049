def RX0 : String := "BoredKings$Court"
def TX0 : u_T := fun k => match k with
  | 0 => ("BoredKings$Court", "kind", "[I", true)
  | 1 => ("BoredKings$Court", "taste", "[I", true)
  | 2 => ("BoredKings$Court", "stands", "[I", true)
  | 3 => ("BoredKings$Court", "persons", "I", false)
  | 4 => ("BoredKings$Court", "things", "LBoredKings$Things;", true)
  | 5 => ("BoredKings$Court", "fade", "I", false)
  | _ => ("BoredKings$Court", "numbers", "[I", true)
def tyX0 : Nat → FieldType := fun k => match k with
  | 0 => .array .int
  | 1 => .array .int
  | 2 => .array .int
  | 3 => .int
  | 4 => .object "BoredKings$Things"
  | 5 => .int
  | _ => .array .int
abbrev wsX00 : List Cond := u_ws RX0 TX0 7
theorem nmX0 : ∀ a, a < 7 → ∀ b, b < 7 → a ≠ b → (TX0 a).2.1 ≠ (TX0 b).2.1 := by decide +kernel
theorem tyX0_ok : ∀ k, k < 7 → parseFieldDescriptor (TX0 k).2.2.1 = some (tyX0 k) := by decide +kernel
abbrev cX0_init : ByteArray := prog_2_method_1_code
def yX0_init : MethodName := ⟨RX0, "<init>", "()V"⟩
abbrev cX0_read : ByteArray := prog_2_method_2_code
def yX0_read : MethodName := ⟨RX0, "read", "(LBoredKings$Script;)I"⟩
abbrev cX0_numbersOf : ByteArray := prog_2_method_3_code
def yX0_numbersOf : MethodName := ⟨RX0, "numbersOf", "(I)I"⟩
abbrev cX0_readNumbers : ByteArray := prog_2_method_4_code
def yX0_readNumbers : MethodName := ⟨RX0, "readNumbers", "(LBoredKings$Script;II)I"⟩
abbrev cX0_takes : ByteArray := prog_2_method_5_code
def yX0_takes : MethodName := ⟨RX0, "takes", "(I)Z"⟩
abbrev cX0_takesPerson : ByteArray := prog_2_method_6_code
def yX0_takesPerson : MethodName := ⟨RX0, "takesPerson", "(III)Z"⟩
abbrev cX0_takesThing : ByteArray := prog_2_method_7_code
def yX0_takesThing : MethodName := ⟨RX0, "takesThing", "(III)Z"⟩
abbrev cX0_takesFade : ByteArray := prog_2_method_8_code
def yX0_takesFade : MethodName := ⟨RX0, "takesFade", "(I)Z"⟩
abbrev cX0_faded : ByteArray := prog_2_method_9_code
def yX0_faded : MethodName := ⟨RX0, "faded", "(I)I"⟩
abbrev cX0_standsOf : ByteArray := prog_2_method_10_code
def yX0_standsOf : MethodName := ⟨RX0, "standsOf", "(I)I"⟩
def RX1 : String := "BoredKings$Moment"
def TX1 : u_T := fun k => match k with
  | 0 => ("BoredKings$Moment", "day", "I", false)
  | 1 => ("BoredKings$Moment", "king", "I", false)
  | 2 => ("BoredKings$Moment", "interest", "I", false)
  | 3 => ("BoredKings$Moment", "hidden", "I", false)
  | 4 => ("BoredKings$Moment", "reigned", "[I", true)
  | _ => ("BoredKings$Moment", "things", "LBoredKings$Things;", true)
def tyX1 : Nat → FieldType := fun k => match k with
  | 0 => .int
  | 1 => .int
  | 2 => .int
  | 3 => .int
  | 4 => .array .int
  | _ => .object "BoredKings$Things"
abbrev wsX10 : List Cond := u_ws RX1 TX1 6
theorem nmX1 : ∀ a, a < 6 → ∀ b, b < 6 → a ≠ b → (TX1 a).2.1 ≠ (TX1 b).2.1 := by decide +kernel
theorem tyX1_ok : ∀ k, k < 6 → parseFieldDescriptor (TX1 k).2.2.1 = some (tyX1 k) := by decide +kernel
abbrev cX1_init : ByteArray := prog_3_method_1_code
def yX1_init : MethodName := ⟨RX1, "<init>", "()V"⟩
abbrev cX1_begin : ByteArray := prog_3_method_2_code
def yX1_begin : MethodName := ⟨RX1, "begin", "(LBoredKings$Court;)V"⟩
abbrev cX1_copyFrom : ByteArray := prog_3_method_3_code
def yX1_copyFrom : MethodName := ⟨RX1, "copyFrom", "(LBoredKings$Moment;)V"⟩
abbrev cX1_isHidden : ByteArray := prog_3_method_4_code
def yX1_isHidden : MethodName := ⟨RX1, "isHidden", "(I)Z"⟩
abbrev cX1_addReigned : ByteArray := prog_3_method_5_code
def yX1_addReigned : MethodName := ⟨RX1, "addReigned", "(I)V"⟩
def RX2 : String := "BoredKings$Outlook"
def TX2 : u_T := fun k => match k with
  | 0 => ("BoredKings$Outlook", "court", "LBoredKings$Court;", true)
  | 1 => ("BoredKings$Outlook", "things", "LBoredKings$Things;", false)
  | 2 => ("BoredKings$Outlook", "firstDay", "I", false)
  | 3 => ("BoredKings$Outlook", "days", "I", false)
  | 4 => ("BoredKings$Outlook", "shown", "[I", true)
  | 5 => ("BoredKings$Outlook", "had", "[I", true)
  | _ => ("BoredKings$Outlook", "gain", "[I", true)
def tyX2 : Nat → FieldType := fun k => match k with
  | 0 => .object "BoredKings$Court"
  | 1 => .object "BoredKings$Things"
  | 2 => .int
  | 3 => .int
  | 4 => .array .int
  | 5 => .array .int
  | _ => .array .int
abbrev wsX20 : List Cond := u_ws RX2 TX2 7
theorem nmX2 : ∀ a, a < 7 → ∀ b, b < 7 → a ≠ b → (TX2 a).2.1 ≠ (TX2 b).2.1 := by decide +kernel
theorem tyX2_ok : ∀ k, k < 7 → parseFieldDescriptor (TX2 k).2.2.1 = some (tyX2 k) := by decide +kernel
abbrev cX2_init : ByteArray := prog_4_method_1_code
def yX2_init : MethodName := ⟨RX2, "<init>", "(LBoredKings$Court;)V"⟩
abbrev cX2_look : ByteArray := prog_4_method_2_code
def yX2_look : MethodName := ⟨RX2, "look", "(LBoredKings$Things;III)V"⟩
abbrev cX2_isLookedAt : ByteArray := prog_4_method_3_code
def yX2_isLookedAt : MethodName := ⟨RX2, "isLookedAt", "(I)Z"⟩
abbrev cX2_isPlace : ByteArray := prog_4_method_4_code
def yX2_isPlace : MethodName := ⟨RX2, "isPlace", "(I)Z"⟩
abbrev cX2_weigh : ByteArray := prog_4_method_5_code
def yX2_weigh : MethodName := ⟨RX2, "weigh", "(II)V"⟩
abbrev cX2_gainBy : ByteArray := prog_4_method_6_code
def yX2_gainBy : MethodName := ⟨RX2, "gainBy", "(IIII)I"⟩
abbrev cX2_gainOf : ByteArray := prog_4_method_7_code
def yX2_gainOf : MethodName := ⟨RX2, "gainOf", "(II)I"⟩
abbrev cX2_gainWithout : ByteArray := prog_4_method_8_code
def yX2_gainWithout : MethodName := ⟨RX2, "gainWithout", "(III)I"⟩
abbrev cX2_gainOfOneMore : ByteArray := prog_4_method_9_code
def yX2_gainOfOneMore : MethodName := ⟨RX2, "gainOfOneMore", "(IIII)I"⟩
abbrev cX2_add : ByteArray := prog_4_method_10_code
def yX2_add : MethodName := ⟨RX2, "add", "(III)V"⟩
abbrev cX2_takeAway : ByteArray := prog_4_method_11_code
def yX2_takeAway : MethodName := ⟨RX2, "takeAway", "(III)V"⟩
abbrev cX2_addTimes : ByteArray := prog_4_method_12_code
def yX2_addTimes : MethodName := ⟨RX2, "addTimes", "(IIII)V"⟩
abbrev cX2_shownAtAll : ByteArray := prog_4_method_13_code
def yX2_shownAtAll : MethodName := ⟨RX2, "shownAtAll", "()I"⟩
def RX3 : String := "BoredKings$Reign"
def TX3 : u_T := fun k => match k with
  | 0 => ("BoredKings$Reign", "court", "LBoredKings$Court;", true)
  | 1 => ("BoredKings$Reign", "outlook", "LBoredKings$Outlook;", true)
  | 2 => ("BoredKings$Reign", "line", "[I", true)
  | 3 => ("BoredKings$Reign", "at", "I", false)
  | _ => ("BoredKings$Reign", "interest", "I", false)
def tyX3 : Nat → FieldType := fun k => match k with
  | 0 => .object "BoredKings$Court"
  | 1 => .object "BoredKings$Outlook"
  | 2 => .array .int
  | 3 => .int
  | _ => .int
abbrev wsX30 : List Cond := u_ws RX3 TX3 5
theorem nmX3 : ∀ a, a < 5 → ∀ b, b < 5 → a ≠ b → (TX3 a).2.1 ≠ (TX3 b).2.1 := by decide +kernel
theorem tyX3_ok : ∀ k, k < 5 → parseFieldDescriptor (TX3 k).2.2.1 = some (tyX3 k) := by decide +kernel
abbrev cX3_init : ByteArray := prog_5_method_1_code
def yX3_init : MethodName := ⟨RX3, "<init>", "(LBoredKings$Court;LBoredKings$Outlook;)V"⟩
abbrev cX3_start : ByteArray := prog_5_method_2_code
def yX3_start : MethodName := ⟨RX3, "start", "(LBoredKings$Moment;)V"⟩
abbrev cX3_startFirst : ByteArray := prog_5_method_3_code
def yX3_startFirst : MethodName := ⟨RX3, "startFirst", "()V"⟩
abbrev cX3_startLine : ByteArray := prog_5_method_4_code
def yX3_startLine : MethodName := ⟨RX3, "startLine", "(LBoredKings$Moment;)V"⟩
abbrev cX3_reigning : ByteArray := prog_5_method_5_code
def yX3_reigning : MethodName := ⟨RX3, "reigning", "()I"⟩
abbrev cX3_ringsOn : ByteArray := prog_5_method_6_code
def yX3_ringsOn : MethodName := ⟨RX3, "ringsOn", "(I)Z"⟩
abbrev cX3_change : ByteArray := prog_5_method_7_code
def yX3_change : MethodName := ⟨RX3, "change", "()V"⟩
abbrev cX3_live : ByteArray := prog_5_method_8_code
def yX3_live : MethodName := ⟨RX3, "live", "(I)Z"⟩
abbrev cX3_lineUp : ByteArray := prog_5_method_9_code
def yX3_lineUp : MethodName := ⟨RX3, "lineUp", "()V"⟩
abbrev cX3_copyLine : ByteArray := prog_5_method_10_code
def yX3_copyLine : MethodName := ⟨RX3, "copyLine", "([I)V"⟩
abbrev cX3_lineUpNext : ByteArray := prog_5_method_11_code
def yX3_lineUpNext : MethodName := ⟨RX3, "lineUpNext", "(I)Z"⟩
abbrev cX3_sortDown : ByteArray := prog_5_method_12_code
def yX3_sortDown : MethodName := ⟨RX3, "sortDown", "(II)V"⟩
abbrev cX3_swap : ByteArray := prog_5_method_13_code
def yX3_swap : MethodName := ⟨RX3, "swap", "(II)V"⟩
def RX4 : String := "BoredKings$Script"
def TX4 : u_T := fun k => match k with
  | 0 => ("BoredKings$Script", "letters", "[I", true)
  | _ => ("BoredKings$Script", "length", "I", false)
def tyX4 : Nat → FieldType := fun k => match k with
  | 0 => .array .int
  | _ => .int
abbrev wsX40 : List Cond := u_ws RX4 TX4 2
theorem nmX4 : ∀ a, a < 2 → ∀ b, b < 2 → a ≠ b → (TX4 a).2.1 ≠ (TX4 b).2.1 := by decide +kernel
theorem tyX4_ok : ∀ k, k < 2 → parseFieldDescriptor (TX4 k).2.2.1 = some (tyX4 k) := by decide +kernel
abbrev cX4_init : ByteArray := prog_6_method_1_code
def yX4_init : MethodName := ⟨RX4, "<init>", "()V"⟩
abbrev cX4_append : ByteArray := prog_6_method_2_code
def yX4_append : MethodName := ⟨RX4, "append", "(I)Z"⟩
abbrev cX4_clear : ByteArray := prog_6_method_3_code
def yX4_clear : MethodName := ⟨RX4, "clear", "()V"⟩
abbrev cX4_letterAt : ByteArray := prog_6_method_4_code
def yX4_letterAt : MethodName := ⟨RX4, "letterAt", "(I)I"⟩
abbrev cX4_isFigure : ByteArray := prog_6_method_5_code
def yX4_isFigure : MethodName := ⟨RX4, "isFigure", "(I)Z"⟩
abbrev cX4_figuresAt : ByteArray := prog_6_method_6_code
def yX4_figuresAt : MethodName := ⟨RX4, "figuresAt", "(I)I"⟩
abbrev cX4_numberAt : ByteArray := prog_6_method_7_code
def yX4_numberAt : MethodName := ⟨RX4, "numberAt", "(II)I"⟩
def RX5 : String := "BoredKings$Shelf"
def TX5 : u_T := fun k => match k with
  | 0 => ("BoredKings$Shelf", "places", "[LBoredKings$Moment;", true)
  | 1 => ("BoredKings$Shelf", "oldest", "I", false)
  | _ => ("BoredKings$Shelf", "size", "I", false)
def tyX5 : Nat → FieldType := fun k => match k with
  | 0 => .array (.object "BoredKings$Moment")
  | 1 => .int
  | _ => .int
abbrev wsX50 : List Cond := u_ws RX5 TX5 3
theorem nmX5 : ∀ a, a < 3 → ∀ b, b < 3 → a ≠ b → (TX5 a).2.1 ≠ (TX5 b).2.1 := by decide +kernel
theorem tyX5_ok : ∀ k, k < 3 → parseFieldDescriptor (TX5 k).2.2.1 = some (tyX5 k) := by decide +kernel
abbrev cX5_init : ByteArray := prog_7_method_1_code
def yX5_init : MethodName := ⟨RX5, "<init>", "(I)V"⟩
abbrev cX5_clear : ByteArray := prog_7_method_2_code
def yX5_clear : MethodName := ⟨RX5, "clear", "()V"⟩
abbrev cX5_placeBehind : ByteArray := prog_7_method_3_code
def yX5_placeBehind : MethodName := ⟨RX5, "placeBehind", "(I)LBoredKings$Moment;"⟩
abbrev cX5_put : ByteArray := prog_7_method_4_code
def yX5_put : MethodName := ⟨RX5, "put", "(LBoredKings$Moment;)V"⟩
abbrev cX5_takeInto : ByteArray := prog_7_method_5_code
def yX5_takeInto : MethodName := ⟨RX5, "takeInto", "(LBoredKings$Moment;)Z"⟩
def RX6 : String := "BoredKings$Sightings"
def TX6 : u_T := fun k => match k with
  | 0 => ("BoredKings$Sightings", "who", "[I", true)
  | 1 => ("BoredKings$Sightings", "when", "[I", true)
  | _ => ("BoredKings$Sightings", "size", "I", false)
def tyX6 : Nat → FieldType := fun k => match k with
  | 0 => .array .int
  | 1 => .array .int
  | _ => .int
abbrev wsX60 : List Cond := u_ws RX6 TX6 3
theorem nmX6 : ∀ a, a < 3 → ∀ b, b < 3 → a ≠ b → (TX6 a).2.1 ≠ (TX6 b).2.1 := by decide +kernel
theorem tyX6_ok : ∀ k, k < 3 → parseFieldDescriptor (TX6 k).2.2.1 = some (tyX6 k) := by decide +kernel
abbrev cX6_init : ByteArray := prog_8_method_1_code
def yX6_init : MethodName := ⟨RX6, "<init>", "()V"⟩
abbrev cX6_clear : ByteArray := prog_8_method_2_code
def yX6_clear : MethodName := ⟨RX6, "clear", "()V"⟩
abbrev cX6_add : ByteArray := prog_8_method_3_code
def yX6_add : MethodName := ⟨RX6, "add", "(II)Z"⟩
abbrev cX6_agrees : ByteArray := prog_8_method_4_code
def yX6_agrees : MethodName := ⟨RX6, "agrees", "(II)Z"⟩
abbrev cX6_lastDay : ByteArray := prog_8_method_5_code
def yX6_lastDay : MethodName := ⟨RX6, "lastDay", "()I"⟩
def RX7 : String := "BoredKings$Things"
def TX7 : u_T := fun k => match k with
  | 0 => ("BoredKings$Things", "day", "[I", true)
  | 1 => ("BoredKings$Things", "topics", "[I", true)
  | 2 => ("BoredKings$Things", "strength", "[I", true)
  | _ => ("BoredKings$Things", "size", "I", false)
def tyX7 : Nat → FieldType := fun k => match k with
  | 0 => .array .int
  | 1 => .array .int
  | 2 => .array .int
  | _ => .int
abbrev wsX70 : List Cond := u_ws RX7 TX7 4
theorem nmX7 : ∀ a, a < 4 → ∀ b, b < 4 → a ≠ b → (TX7 a).2.1 ≠ (TX7 b).2.1 := by decide +kernel
theorem tyX7_ok : ∀ k, k < 4 → parseFieldDescriptor (TX7 k).2.2.1 = some (tyX7 k) := by decide +kernel
abbrev cX7_init : ByteArray := prog_9_method_1_code
def yX7_init : MethodName := ⟨RX7, "<init>", "()V"⟩
abbrev cX7_clear : ByteArray := prog_9_method_2_code
def yX7_clear : MethodName := ⟨RX7, "clear", "()V"⟩
abbrev cX7_add : ByteArray := prog_9_method_3_code
def yX7_add : MethodName := ⟨RX7, "add", "(III)Z"⟩
abbrev cX7_copyFrom : ByteArray := prog_9_method_4_code
def yX7_copyFrom : MethodName := ⟨RX7, "copyFrom", "(LBoredKings$Things;)V"⟩
def RX8 : String := "BoredKings"
def TX8 : u_T := fun k => match k with
  | 0 => ("BoredKings", "script", "LBoredKings$Script;", true)
  | 1 => ("BoredKings", "draft", "LBoredKings$Court;", true)
  | 2 => ("BoredKings", "laid", "LBoredKings$Court;", true)
  | 3 => ("BoredKings", "now", "LBoredKings$Moment;", true)
  | 4 => ("BoredKings", "acts", "LBoredKings$Shelf;", true)
  | 5 => ("BoredKings", "shelf", "LBoredKings$Shelf;", true)
  | 6 => ("BoredKings", "sightings", "LBoredKings$Sightings;", true)
  | 7 => ("BoredKings", "outlook", "LBoredKings$Outlook;", true)
  | 8 => ("BoredKings", "reign", "LBoredKings$Reign;", true)
  | _ => ("BoredKings", "bestOrder", "[I", true)
def tyX8 : Nat → FieldType := fun k => match k with
  | 0 => .object "BoredKings$Script"
  | 1 => .object "BoredKings$Court"
  | 2 => .object "BoredKings$Court"
  | 3 => .object "BoredKings$Moment"
  | 4 => .object "BoredKings$Shelf"
  | 5 => .object "BoredKings$Shelf"
  | 6 => .object "BoredKings$Sightings"
  | 7 => .object "BoredKings$Outlook"
  | 8 => .object "BoredKings$Reign"
  | _ => .array .int
abbrev wsX80 : List Cond := u_ws RX8 TX8 10
theorem nmX8 : ∀ a, a < 10 → ∀ b, b < 10 → a ≠ b → (TX8 a).2.1 ≠ (TX8 b).2.1 := by decide +kernel
theorem tyX8_ok : ∀ k, k < 10 → parseFieldDescriptor (TX8 k).2.2.1 = some (tyX8 k) := by decide +kernel
abbrev cX8_init : ByteArray := prog_1_method_1_code
def yX8_init : MethodName := ⟨RX8, "<init>", "()V"⟩
abbrev cX8_write : ByteArray := prog_1_method_2_code
def yX8_write : MethodName := ⟨RX8, "write", "(I)I"⟩
abbrev cX8_wipe : ByteArray := prog_1_method_3_code
def yX8_wipe : MethodName := ⟨RX8, "wipe", "()I"⟩
abbrev cX8_fault : ByteArray := prog_1_method_4_code
def yX8_fault : MethodName := ⟨RX8, "fault", "()I"⟩
abbrev cX8_lay : ByteArray := prog_1_method_5_code
def yX8_lay : MethodName := ⟨RX8, "lay", "()I"⟩
abbrev cX8_person : ByteArray := prog_1_method_6_code
def yX8_person : MethodName := ⟨RX8, "person", "(II)I"⟩
abbrev cX8_thing : ByteArray := prog_1_method_7_code
def yX8_thing : MethodName := ⟨RX8, "thing", "(II)I"⟩
abbrev cX8_pass : ByteArray := prog_1_method_8_code
def yX8_pass : MethodName := ⟨RX8, "pass", "(I)I"⟩
abbrev cX8_hide : ByteArray := prog_1_method_9_code
def yX8_hide : MethodName := ⟨RX8, "hide", "(I)I"⟩
abbrev cX8_arrange : ByteArray := prog_1_method_10_code
def yX8_arrange : MethodName := ⟨RX8, "arrange", "(III)I"⟩
abbrev cX8_undo : ByteArray := prog_1_method_11_code
def yX8_undo : MethodName := ⟨RX8, "undo", "()I"⟩
abbrev cX8_king : ByteArray := prog_1_method_12_code
def yX8_king : MethodName := ⟨RX8, "king", "(II)I"⟩
abbrev cX8_bell : ByteArray := prog_1_method_13_code
def yX8_bell : MethodName := ⟨RX8, "bell", "()I"⟩
abbrev cX8_hides : ByteArray := prog_1_method_14_code
def yX8_hides : MethodName := ⟨RX8, "hides", "(I)I"⟩
abbrev cX8_raise : ByteArray := prog_1_method_15_code
def yX8_raise : MethodName := ⟨RX8, "raise", "(II)I"⟩
abbrev cX8_order : ByteArray := prog_1_method_16_code
def yX8_order : MethodName := ⟨RX8, "order", "(II)I"⟩
abbrev cX8_away : ByteArray := prog_1_method_17_code
def yX8_away : MethodName := ⟨RX8, "away", "(I)I"⟩
abbrev cX8_seen : ByteArray := prog_1_method_18_code
def yX8_seen : MethodName := ⟨RX8, "seen", "(II)I"⟩
abbrev cX8_forget : ByteArray := prog_1_method_19_code
def yX8_forget : MethodName := ⟨RX8, "forget", "()I"⟩
abbrev cX8_tastes : ByteArray := prog_1_method_20_code
def yX8_tastes : MethodName := ⟨RX8, "tastes", "(II)I"⟩
abbrev cX8_lasts : ByteArray := prog_1_method_21_code
def yX8_lasts : MethodName := ⟨RX8, "lasts", "(IIIII)I"⟩
abbrev cX8_content : ByteArray := prog_1_method_22_code
def yX8_content : MethodName := ⟨RX8, "content", "(I)I"⟩
abbrev cX8_dull : ByteArray := prog_1_method_23_code
def yX8_dull : MethodName := ⟨RX8, "dull", "(I)I"⟩
abbrev cX8_year : ByteArray := prog_1_method_24_code
def yX8_year : MethodName := ⟨RX8, "year", "(III)I"⟩
abbrev cX8_keep : ByteArray := prog_1_method_25_code
def yX8_keep : MethodName := ⟨RX8, "keep", "()I"⟩
abbrev cX8_back : ByteArray := prog_1_method_26_code
def yX8_back : MethodName := ⟨RX8, "back", "()I"⟩
abbrev cX8_count : ByteArray := prog_1_method_27_code
def yX8_count : MethodName := ⟨RX8, "count", "(I)I"⟩
abbrev cX8_isPerson : ByteArray := prog_1_method_28_code
def yX8_isPerson : MethodName := ⟨RX8, "isPerson", "(I)Z"⟩
abbrev cX8_isThing : ByteArray := prog_1_method_29_code
def yX8_isThing : MethodName := ⟨RX8, "isThing", "(I)Z"⟩
abbrev cX8_isTopics : ByteArray := prog_1_method_30_code
def yX8_isTopics : MethodName := ⟨RX8, "isTopics", "(I)Z"⟩
abbrev cX8_isStrength : ByteArray := prog_1_method_31_code
def yX8_isStrength : MethodName := ⟨RX8, "isStrength", "(I)Z"⟩
abbrev cX8_isDayFromNow : ByteArray := prog_1_method_32_code
def yX8_isDayFromNow : MethodName := ⟨RX8, "isDayFromNow", "(I)Z"⟩
abbrev cX8_isHalf : ByteArray := prog_1_method_33_code
def yX8_isHalf : MethodName := ⟨RX8, "isHalf", "(I)Z"⟩
abbrev cX8_lookAhead : ByteArray := prog_1_method_34_code
def yX8_lookAhead : MethodName := ⟨RX8, "lookAhead", "(I)V"⟩
abbrev cX8_placeOf : ByteArray := prog_1_method_35_code
def yX8_placeOf : MethodName := ⟨RX8, "placeOf", "(I)I"⟩
abbrev cX8_firstBell : ByteArray := prog_1_method_36_code
def yX8_firstBell : MethodName := ⟨RX8, "firstBell", "()I"⟩
abbrev cX8_firstReignOf : ByteArray := prog_1_method_37_code
def yX8_firstReignOf : MethodName := ⟨RX8, "firstReignOf", "(I)I"⟩
abbrev cX8_staysWithout : ByteArray := prog_1_method_38_code
def yX8_staysWithout : MethodName := ⟨RX8, "staysWithout", "(II)Z"⟩
abbrev cX8_staysWith : ByteArray := prog_1_method_39_code
def yX8_staysWith : MethodName := ⟨RX8, "staysWith", "(IIII)Z"⟩
abbrev cX8_bellsInOrder : ByteArray := prog_1_method_40_code
def yX8_bellsInOrder : MethodName := ⟨RX8, "bellsInOrder", "(II)I"⟩
abbrev cX8_wasSo : ByteArray := prog_1_method_41_code
def yX8_wasSo : MethodName := ⟨RX8, "wasSo", "()Z"⟩
abbrev cX8_draw : ByteArray := prog_1_method_42_code
def yX8_draw : MethodName := ⟨RX8, "draw", "(II)I"⟩
abbrev cX8_power : ByteArray := prog_1_method_43_code
def yX8_power : MethodName := ⟨RX8, "power", "(II)I"⟩
abbrev cX8_greatestDivisor : ByteArray := prog_1_method_44_code
def yX8_greatestDivisor : MethodName := ⟨RX8, "greatestDivisor", "(II)I"⟩
abbrev cX8_comesBy : ByteArray := prog_1_method_45_code
def yX8_comesBy : MethodName := ⟨RX8, "comesBy", "(IIIIII)I"⟩
def RX9 : String := "BoredKingsModel"
def TX9 : u_T := fun k => match k with
  | 0 => ("BoredKingsModel", "persons", "I", false)
  | 1 => ("BoredKingsModel", "person", "[I", true)
  | 2 => ("BoredKingsModel", "fades", "I", false)
  | 3 => ("BoredKingsModel", "st", "[I", true)
  | 4 => ("BoredKingsModel", "first", "[I", true)
  | 5 => ("BoredKingsModel", "acts", "I", false)
  | 6 => ("BoredKingsModel", "was", "[I", true)
  | 7 => ("BoredKingsModel", "keeps", "I", false)
  | 8 => ("BoredKingsModel", "kept", "[I", true)
  | 9 => ("BoredKingsModel", "seens", "I", false)
  | 10 => ("BoredKingsModel", "seen", "[I", true)
  | 11 => ("BoredKingsModel", "text", "[I", true)
  | 12 => ("BoredKingsModel", "texted", "I", false)
  | 13 => ("BoredKingsModel", "at", "I", false)
  | 14 => ("BoredKingsModel", "told", "[I", true)
  | 15 => ("BoredKingsModel", "readPersons", "I", false)
  | 16 => ("BoredKingsModel", "readPerson", "[I", true)
  | 17 => ("BoredKingsModel", "readFades", "I", false)
  | 18 => ("BoredKingsModel", "read", "[I", true)
  | 19 => ("BoredKingsModel", "now", "[I", true)
  | 20 => ("BoredKingsModel", "moreTopics", "I", false)
  | 21 => ("BoredKingsModel", "moreStrong", "I", false)
  | 22 => ("BoredKingsModel", "order", "[I", true)
  | _ => ("BoredKingsModel", "best", "[I", true)
def tyX9 : Nat → FieldType := fun k => match k with
  | 0 => .int
  | 1 => .array .int
  | 2 => .int
  | 3 => .array .int
  | 4 => .array .int
  | 5 => .int
  | 6 => .array .int
  | 7 => .int
  | 8 => .array .int
  | 9 => .int
  | 10 => .array .int
  | 11 => .array .int
  | 12 => .int
  | 13 => .int
  | 14 => .array .int
  | 15 => .int
  | 16 => .array .int
  | 17 => .int
  | 18 => .array .int
  | 19 => .array .int
  | 20 => .int
  | 21 => .int
  | 22 => .array .int
  | _ => .array .int
abbrev wsX90 : List Cond := u_ws RX9 TX9 24
theorem nmX9 : ∀ a, a < 24 → ∀ b, b < 24 → a ≠ b → (TX9 a).2.1 ≠ (TX9 b).2.1 := by decide +kernel
theorem tyX9_ok : ∀ k, k < 24 → parseFieldDescriptor (TX9 k).2.2.1 = some (tyX9 k) := by decide +kernel
abbrev cX9_init : ByteArray := prog_11_method_1_code
def yX9_init : MethodName := ⟨RX9, "<init>", "()V"⟩
abbrev cX9_tellsPerson : ByteArray := prog_11_method_3_code
def yX9_tellsPerson : MethodName := ⟨RX9, "tellsPerson", "(III)V"⟩
abbrev cX9_addsThing : ByteArray := prog_11_method_4_code
def yX9_addsThing : MethodName := ⟨RX9, "addsThing", "([IIII)V"⟩
abbrev cX9_in : ByteArray := prog_11_method_5_code
def yX9_in : MethodName := ⟨RX9, "in", "(III)Z"⟩
abbrev cX9_has : ByteArray := prog_11_method_6_code
def yX9_has : MethodName := ⟨RX9, "has", "(II)Z"⟩
abbrev cX9_bits : ByteArray := prog_11_method_7_code
def yX9_bits : MethodName := ⟨RX9, "bits", "(I)I"⟩
abbrev cX9_isPerson : ByteArray := prog_11_method_8_code
def yX9_isPerson : MethodName := ⟨RX9, "isPerson", "(I)Z"⟩
abbrev cX9_isThing : ByteArray := prog_11_method_9_code
def yX9_isThing : MethodName := ⟨RX9, "isThing", "(I)Z"⟩
abbrev cX9_write : ByteArray := prog_11_method_10_code
def yX9_write : MethodName := ⟨RX9, "write", "(I)I"⟩
abbrev cX9_wipe : ByteArray := prog_11_method_11_code
def yX9_wipe : MethodName := ⟨RX9, "wipe", "()I"⟩
abbrev cX9_letterAt : ByteArray := prog_11_method_12_code
def yX9_letterAt : MethodName := ⟨RX9, "letterAt", "(I)I"⟩
abbrev cX9_isFigure : ByteArray := prog_11_method_13_code
def yX9_isFigure : MethodName := ⟨RX9, "isFigure", "(I)Z"⟩
abbrev cX9_readNumbers : ByteArray := prog_11_method_14_code
def yX9_readNumbers : MethodName := ⟨RX9, "readNumbers", "(I)Z"⟩
abbrev cX9_isTold : ByteArray := prog_11_method_15_code
def yX9_isTold : MethodName := ⟨RX9, "isTold", "(III)Z"⟩
abbrev cX9_put : ByteArray := prog_11_method_16_code
def yX9_put : MethodName := ⟨RX9, "put", "([II[II)V"⟩
abbrev cX9_clearTold : ByteArray := prog_11_method_17_code
def yX9_clearTold : MethodName := ⟨RX9, "clearTold", "()V"⟩
abbrev cX9_readPersonOf : ByteArray := prog_11_method_18_code
def yX9_readPersonOf : MethodName := ⟨RX9, "readPersonOf", "()Z"⟩
abbrev cX9_readThingOf : ByteArray := prog_11_method_19_code
def yX9_readThingOf : MethodName := ⟨RX9, "readThingOf", "()Z"⟩
abbrev cX9_readFadesOf : ByteArray := prog_11_method_20_code
def yX9_readFadesOf : MethodName := ⟨RX9, "readFadesOf", "()Z"⟩
abbrev cX9_readItem : ByteArray := prog_11_method_21_code
def yX9_readItem : MethodName := ⟨RX9, "readItem", "()Z"⟩
abbrev cX9_fault : ByteArray := prog_11_method_22_code
def yX9_fault : MethodName := ⟨RX9, "fault", "()I"⟩
abbrev cX9_lay : ByteArray := prog_11_method_23_code
def yX9_lay : MethodName := ⟨RX9, "lay", "()I"⟩
abbrev cX9_settles : ByteArray := prog_11_method_24_code
def yX9_settles : MethodName := ⟨RX9, "settles", "()V"⟩
abbrev cX9_from : ByteArray := prog_11_method_25_code
def yX9_from : MethodName := ⟨RX9, "from", "([I)V"⟩
abbrev cX9_comesBy : ByteArray := prog_11_method_26_code
def yX9_comesBy : MethodName := ⟨RX9, "comesBy", "(IIII)I"⟩
abbrev cX9_comes : ByteArray := prog_11_method_27_code
def yX9_comes : MethodName := ⟨RX9, "comes", "(II)I"⟩
abbrev cX9_isEnough : ByteArray := prog_11_method_28_code
def yX9_isEnough : MethodName := ⟨RX9, "isEnough", "(II)Z"⟩
abbrev cX9_goes : ByteArray := prog_11_method_29_code
def yX9_goes : MethodName := ⟨RX9, "goes", "()Z"⟩
abbrev cX9_goesOn : ByteArray := prog_11_method_30_code
def yX9_goesOn : MethodName := ⟨RX9, "goesOn", "(I)I"⟩
abbrev cX9_person : ByteArray := prog_11_method_31_code
def yX9_person : MethodName := ⟨RX9, "person", "(II)I"⟩
abbrev cX9_thing : ByteArray := prog_11_method_32_code
def yX9_thing : MethodName := ⟨RX9, "thing", "(II)I"⟩
abbrev cX9_remembers : ByteArray := prog_11_method_33_code
def yX9_remembers : MethodName := ⟨RX9, "remembers", "()V"⟩
abbrev cX9_pass : ByteArray := prog_11_method_34_code
def yX9_pass : MethodName := ⟨RX9, "pass", "(I)I"⟩
abbrev cX9_hide : ByteArray := prog_11_method_35_code
def yX9_hide : MethodName := ⟨RX9, "hide", "(I)I"⟩
abbrev cX9_arrange : ByteArray := prog_11_method_36_code
def yX9_arrange : MethodName := ⟨RX9, "arrange", "(III)I"⟩
abbrev cX9_undo : ByteArray := prog_11_method_37_code
def yX9_undo : MethodName := ⟨RX9, "undo", "()I"⟩
abbrev cX9_king : ByteArray := prog_11_method_38_code
def yX9_king : MethodName := ⟨RX9, "king", "(II)I"⟩
abbrev cX9_firstBell : ByteArray := prog_11_method_39_code
def yX9_firstBell : MethodName := ⟨RX9, "firstBell", "()I"⟩
abbrev cX9_bell : ByteArray := prog_11_method_40_code
def yX9_bell : MethodName := ⟨RX9, "bell", "()I"⟩
abbrev cX9_hides : ByteArray := prog_11_method_41_code
def yX9_hides : MethodName := ⟨RX9, "hides", "(I)I"⟩
abbrev cX9_reignsOn : ByteArray := prog_11_method_42_code
def yX9_reignsOn : MethodName := ⟨RX9, "reignsOn", "(I)I"⟩
abbrev cX9_raise : ByteArray := prog_11_method_43_code
def yX9_raise : MethodName := ⟨RX9, "raise", "(II)I"⟩
abbrev cX9_isOrder : ByteArray := prog_11_method_44_code
def yX9_isOrder : MethodName := ⟨RX9, "isOrder", "(I)Z"⟩
abbrev cX9_order : ByteArray := prog_11_method_45_code
def yX9_order : MethodName := ⟨RX9, "order", "(II)I"⟩
abbrev cX9_away : ByteArray := prog_11_method_46_code
def yX9_away : MethodName := ⟨RX9, "away", "(I)I"⟩
abbrev cX9_seen : ByteArray := prog_11_method_47_code
def yX9_seen : MethodName := ⟨RX9, "seen", "(II)I"⟩
abbrev cX9_forget : ByteArray := prog_11_method_48_code
def yX9_forget : MethodName := ⟨RX9, "forget", "()I"⟩
abbrev cX9_tastes : ByteArray := prog_11_method_49_code
def yX9_tastes : MethodName := ⟨RX9, "tastes", "(II)I"⟩
abbrev cX9_lasts : ByteArray := prog_11_method_50_code
def yX9_lasts : MethodName := ⟨RX9, "lasts", "(IIIII)I"⟩
abbrev cX9_content : ByteArray := prog_11_method_51_code
def yX9_content : MethodName := ⟨RX9, "content", "(I)I"⟩
abbrev cX9_dull : ByteArray := prog_11_method_52_code
def yX9_dull : MethodName := ⟨RX9, "dull", "(I)I"⟩
abbrev cX9_year : ByteArray := prog_11_method_53_code
def yX9_year : MethodName := ⟨RX9, "year", "(III)I"⟩
abbrev cX9_keep : ByteArray := prog_11_method_54_code
def yX9_keep : MethodName := ⟨RX9, "keep", "()I"⟩
abbrev cX9_back : ByteArray := prog_11_method_55_code
def yX9_back : MethodName := ⟨RX9, "back", "()I"⟩
abbrev cX9_count : ByteArray := prog_11_method_56_code
def yX9_count : MethodName := ⟨RX9, "count", "(I)I"⟩
def RJx145de : String := "java/io/Serializable"
def TJx145de : u_T := fun k => match k with
  | _ => ("", "", "", false)
def tyJx145de : Nat → FieldType := fun k => match k with
  | _ => .int
abbrev wsJx145de0 : List Cond := u_ws RJx145de TJx145de 0
theorem nmJx145de : ∀ a, a < 0 → ∀ b, b < 0 → a ≠ b → (TJx145de a).2.1 ≠ (TJx145de b).2.1 := by decide +kernel
theorem tyJx145de_ok : ∀ k, k < 0 → parseFieldDescriptor (TJx145de k).2.2.1 = some (tyJx145de k) := by decide +kernel
def RJx9f9b0 : String := "java/lang/CharSequence"
def TJx9f9b0 : u_T := fun k => match k with
  | _ => ("", "", "", false)
def tyJx9f9b0 : Nat → FieldType := fun k => match k with
  | _ => .int
abbrev wsJx9f9b00 : List Cond := u_ws RJx9f9b0 TJx9f9b0 0
theorem nmJx9f9b0 : ∀ a, a < 0 → ∀ b, b < 0 → a ≠ b → (TJx9f9b0 a).2.1 ≠ (TJx9f9b0 b).2.1 := by decide +kernel
theorem tyJx9f9b0_ok : ∀ k, k < 0 → parseFieldDescriptor (TJx9f9b0 k).2.2.1 = some (tyJx9f9b0 k) := by decide +kernel
def RJxb160c : String := "java/lang/Comparable"
def TJxb160c : u_T := fun k => match k with
  | _ => ("", "", "", false)
def tyJxb160c : Nat → FieldType := fun k => match k with
  | _ => .int
abbrev wsJxb160c0 : List Cond := u_ws RJxb160c TJxb160c 0
theorem nmJxb160c : ∀ a, a < 0 → ∀ b, b < 0 → a ≠ b → (TJxb160c a).2.1 ≠ (TJxb160c b).2.1 := by decide +kernel
theorem tyJxb160c_ok : ∀ k, k < 0 → parseFieldDescriptor (TJxb160c k).2.2.1 = some (tyJxb160c k) := by decide +kernel
def RJ6 : String := "java/lang/Integer"
def TJ6 : u_T := fun k => match k with
  | _ => ("", "", "", false)
def tyJ6 : Nat → FieldType := fun k => match k with
  | _ => .int
abbrev wsJ60 : List Cond := u_ws RJ6 TJ6 0
theorem nmJ6 : ∀ a, a < 0 → ∀ b, b < 0 → a ≠ b → (TJ6 a).2.1 ≠ (TJ6 b).2.1 := by decide +kernel
theorem tyJ6_ok : ∀ k, k < 0 → parseFieldDescriptor (TJ6 k).2.2.1 = some (tyJ6 k) := by decide +kernel
abbrev cJ6_bitCount_0f7a4 : ByteArray := prog_12_method_49_code
def yJ6_bitCount_0f7a4 : MethodName := ⟨RJ6, "bitCount", "(I)I"⟩
def RJ9 : String := "java/lang/Math"
def TJ9 : u_T := fun k => match k with
  | _ => ("", "", "", false)
def tyJ9 : Nat → FieldType := fun k => match k with
  | _ => .int
abbrev wsJ90 : List Cond := u_ws RJ9 TJ9 0
theorem nmJ9 : ∀ a, a < 0 → ∀ b, b < 0 → a ≠ b → (TJ9 a).2.1 ≠ (TJ9 b).2.1 := by decide +kernel
theorem tyJ9_ok : ∀ k, k < 0 → parseFieldDescriptor (TJ9 k).2.2.1 = some (tyJ9 k) := by decide +kernel
abbrev cJ9_max_7cf53 : ByteArray := prog_13_method_65_code
def yJ9_max_7cf53 : MethodName := ⟨RJ9, "max", "(II)I"⟩
abbrev cJ9_min_7cf53 : ByteArray := prog_13_method_69_code
def yJ9_min_7cf53 : MethodName := ⟨RJ9, "min", "(II)I"⟩
def RJ0 : String := "java/lang/String"
def TJ0 : u_T := fun k => match k with
  | _ => ("", "", "", false)
def tyJ0 : Nat → FieldType := fun k => match k with
  | _ => .int
abbrev wsJ00 : List Cond := u_ws RJ0 TJ0 0
theorem nmJ0 : ∀ a, a < 0 → ∀ b, b < 0 → a ≠ b → (TJ0 a).2.1 ≠ (TJ0 b).2.1 := by decide +kernel
theorem tyJ0_ok : ∀ k, k < 0 → parseFieldDescriptor (TJ0 k).2.2.1 = some (tyJ0 k) := by decide +kernel
abbrev cJ0_length_8abf5 : ByteArray := prog_14_method_54_code
def yJ0_length_8abf5 : MethodName := ⟨RJ0, "length", "()I"⟩
abbrev cJ0_charAt_5068e : ByteArray := prog_14_method_56_code
def yJ0_charAt_5068e : MethodName := ⟨RJ0, "charAt", "(I)C"⟩
abbrev cJ0_coder_7d493 : ByteArray := prog_14_method_152_code
def yJ0_coder_7d493 : MethodName := ⟨RJ0, "coder", "()B"⟩
abbrev cJ0_isLatin1_aae02 : ByteArray := prog_14_method_154_code
def yJ0_isLatin1_aae02 : MethodName := ⟨RJ0, "isLatin1", "()Z"⟩
abbrev cJ0_checkIndex_df160 : ByteArray := prog_14_method_155_code
def yJ0_checkIndex_df160 : MethodName := ⟨RJ0, "checkIndex", "(II)V"⟩
def RJ1 : String := "java/lang/StringLatin1"
def TJ1 : u_T := fun k => match k with
  | _ => ("", "", "", false)
def tyJ1 : Nat → FieldType := fun k => match k with
  | _ => .int
abbrev wsJ10 : List Cond := u_ws RJ1 TJ1 0
theorem nmJ1 : ∀ a, a < 0 → ∀ b, b < 0 → a ≠ b → (TJ1 a).2.1 ≠ (TJ1 b).2.1 := by decide +kernel
theorem tyJ1_ok : ∀ k, k < 0 → parseFieldDescriptor (TJ1 k).2.2.1 = some (tyJ1 k) := by decide +kernel
abbrev cJ1_charAt_3b067 : ByteArray := prog_15_method_2_code
def yJ1_charAt_3b067 : MethodName := ⟨RJ1, "charAt", "([BI)C"⟩
def RJ2 : String := "java/lang/StringUTF16"
def TJ2 : u_T := fun k => match k with
  | _ => ("", "", "", false)
def tyJ2 : Nat → FieldType := fun k => match k with
  | _ => .int
abbrev wsJ20 : List Cond := u_ws RJ2 TJ2 0
theorem nmJ2 : ∀ a, a < 0 → ∀ b, b < 0 → a ≠ b → (TJ2 a).2.1 ≠ (TJ2 b).2.1 := by decide +kernel
theorem tyJ2_ok : ∀ k, k < 0 → parseFieldDescriptor (TJ2 k).2.2.1 = some (tyJ2 k) := by decide +kernel
abbrev cJ2_getChar_3b067 : ByteArray := prog_16_method_5_code
def yJ2_getChar_3b067 : MethodName := ⟨RJ2, "getChar", "([BI)C"⟩
abbrev cJ2_length_9d52b : ByteArray := prog_16_method_6_code
def yJ2_length_9d52b : MethodName := ⟨RJ2, "length", "([B)I"⟩
abbrev cJ2_charAt_3b067 : ByteArray := prog_16_method_83_code
def yJ2_charAt_3b067 : MethodName := ⟨RJ2, "charAt", "([BI)C"⟩
abbrev cJ2_checkIndex_2214a : ByteArray := prog_16_method_91_code
def yJ2_checkIndex_2214a : MethodName := ⟨RJ2, "checkIndex", "(I[B)V"⟩
def RJ10 : String := "java/lang/System"
def TJ10 : u_T := fun k => match k with
  | _ => ("", "", "", false)
def tyJ10 : Nat → FieldType := fun k => match k with
  | _ => .int
abbrev wsJ100 : List Cond := u_ws RJ10 TJ10 0
theorem nmJ10 : ∀ a, a < 0 → ∀ b, b < 0 → a ≠ b → (TJ10 a).2.1 ≠ (TJ10 b).2.1 := by decide +kernel
theorem tyJ10_ok : ∀ k, k < 0 → parseFieldDescriptor (TJ10 k).2.2.1 = some (tyJ10 k) := by decide +kernel
def RJxfd54e : String := "java/lang/constant/Constable"
def TJxfd54e : u_T := fun k => match k with
  | _ => ("", "", "", false)
def tyJxfd54e : Nat → FieldType := fun k => match k with
  | _ => .int
abbrev wsJxfd54e0 : List Cond := u_ws RJxfd54e TJxfd54e 0
theorem nmJxfd54e : ∀ a, a < 0 → ∀ b, b < 0 → a ≠ b → (TJxfd54e a).2.1 ≠ (TJxfd54e b).2.1 := by decide +kernel
theorem tyJxfd54e_ok : ∀ k, k < 0 → parseFieldDescriptor (TJxfd54e k).2.2.1 = some (tyJxfd54e k) := by decide +kernel
def RJx3cf43 : String := "java/lang/constant/ConstantDesc"
def TJx3cf43 : u_T := fun k => match k with
  | _ => ("", "", "", false)
def tyJx3cf43 : Nat → FieldType := fun k => match k with
  | _ => .int
abbrev wsJx3cf430 : List Cond := u_ws RJx3cf43 TJx3cf43 0
theorem nmJx3cf43 : ∀ a, a < 0 → ∀ b, b < 0 → a ≠ b → (TJx3cf43 a).2.1 ≠ (TJx3cf43 b).2.1 := by decide +kernel
theorem tyJx3cf43_ok : ∀ k, k < 0 → parseFieldDescriptor (TJx3cf43 k).2.2.1 = some (tyJx3cf43 k) := by decide +kernel
def RJ7 : String := "java/util/Arrays"
def TJ7 : u_T := fun k => match k with
  | _ => ("", "", "", false)
def tyJ7 : Nat → FieldType := fun k => match k with
  | _ => .int
abbrev wsJ70 : List Cond := u_ws RJ7 TJ7 0
theorem nmJ7 : ∀ a, a < 0 → ∀ b, b < 0 → a ≠ b → (TJ7 a).2.1 ≠ (TJ7 b).2.1 := by decide +kernel
theorem tyJ7_ok : ∀ k, k < 0 → parseFieldDescriptor (TJ7 k).2.2.1 = some (tyJ7 k) := by decide +kernel
abbrev cJ7_fill_53178 : ByteArray := prog_18_method_103_code
def yJ7_fill_53178 : MethodName := ⟨RJ7, "fill", "([II)V"⟩
def RJ3 : String := "jdk/internal/util/Preconditions"
def TJ3 : u_T := fun k => match k with
  | _ => ("", "", "", false)
def tyJ3 : Nat → FieldType := fun k => match k with
  | _ => .int
abbrev wsJ30 : List Cond := u_ws RJ3 TJ3 0
theorem nmJ3 : ∀ a, a < 0 → ∀ b, b < 0 → a ≠ b → (TJ3 a).2.1 ≠ (TJ3 b).2.1 := by decide +kernel
theorem tyJ3_ok : ∀ k, k < 0 → parseFieldDescriptor (TJ3 k).2.2.1 = some (tyJ3 k) := by decide +kernel
abbrev cJ3_checkIndex_8e157 : ByteArray := prog_19_method_11_code
def yJ3_checkIndex_8e157 : MethodName := ⟨RJ3, "checkIndex", "(IILjava/util/function/BiFunction;)I"⟩
def RL : String := "BoredKingsLaw"
abbrev cL_law : ByteArray := code
def yL_law : MethodName := ⟨RL, "law", "([I)Z"⟩
abbrev vwCl : List vw_C := [(RX0, TX0, 7), (RX1, TX1, 6), (RX2, TX2, 7), (RX3, TX3, 5), (RX4, TX4, 2), (RX5, TX5, 3), (RX6, TX6, 3), (RX7, TX7, 4), (RX8, TX8, 10), (RX9, TX9, 24)]
theorem inX0 : ∀ w ∈ wsX00, w ∈ lw_tbl := by decide +kernel
theorem inX1 : ∀ w ∈ wsX10, w ∈ lw_tbl := by decide +kernel
theorem inX2 : ∀ w ∈ wsX20, w ∈ lw_tbl := by decide +kernel
theorem inX3 : ∀ w ∈ wsX30, w ∈ lw_tbl := by decide +kernel
theorem inX4 : ∀ w ∈ wsX40, w ∈ lw_tbl := by decide +kernel
theorem inX5 : ∀ w ∈ wsX50, w ∈ lw_tbl := by decide +kernel
theorem inX6 : ∀ w ∈ wsX60, w ∈ lw_tbl := by decide +kernel
theorem inX7 : ∀ w ∈ wsX70, w ∈ lw_tbl := by decide +kernel
theorem inX8 : ∀ w ∈ wsX80, w ∈ lw_tbl := by decide +kernel
theorem inX9 : ∀ w ∈ wsX90, w ∈ lw_tbl := by decide +kernel
