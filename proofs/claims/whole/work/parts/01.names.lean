/-! ===== BEGIN words of one list among another's, by their places ===== -/
theorem goodIn_r {big : List Cond} (ws : List Cond) (ps : List Nat) (hp : ws = ps.filterMap (fun i => big[i]?)) (h : ws.all goodWord = true) : GoodIn big ws := by
  intro w hw
  have h1 := List.all_eq_true.mp h w hw
  rw [hp] at hw
  obtain ⟨i, -, hi⟩ := List.mem_filterMap.mp hw
  have hm : w ∈ big := by first | exact List.mem_of_getElem? hi | exact List.getElem?_mem hi
  exact ⟨hm, good_of_word h1⟩
theorem goodIn_app {big a b : List Cond} (ha : GoodIn big a) (hb : GoodIn big b) : GoodIn big (a ++ b) := fun w h => (List.mem_append.mp h).elim (ha w) (hb w)
theorem goodIn_ca {big a b : List Cond} {c : Cond} (ha : GoodIn big (c :: a)) (hb : GoodIn big b) : GoodIn big (c :: (a ++ b)) := fun w h => (List.mem_cons.mp h).elim (fun e => ha w (List.mem_cons.mpr (Or.inl e))) (fun h => (List.mem_append.mp h).elim (fun h => ha w (List.mem_cons.mpr (Or.inr h))) (hb w))
theorem goodIn_sub {big ws : List Cond} (hm : ∀ w ∈ ws, w ∈ big) (h : ws.all goodWord = true) : GoodIn big ws := fun w hw => ⟨hm w hw, good_of_word (List.all_eq_true.mp h w hw)⟩
/-! ===== END ===== -/

/-! ===== BEGIN printed: names, fields, word lists, decode rows ===== -/
def RX0 : String := "CageLeave$Life"
def TX0 : u_T := fun k => match k with
  | 0 => ("CageLeave$Life", "steps", "I", false)
  | 1 => ("CageLeave$Life", "count", "[I", true)
  | 2 => ("CageLeave$Life", "drawn", "I", false)
  | 3 => ("CageLeave$Life", "next", "I", false)
  | _ => ("CageLeave$Life", "rounds", "[I", true)
def tyX0 : Nat → FieldType := fun k => match k with
  | 0 => .int
  | 1 => .array .int
  | 2 => .int
  | 3 => .int
  | _ => .array .int
abbrev wsX00 : List Cond := u_ws RX0 TX0 5
theorem nmX0 : ∀ a, a < 5 → ∀ b, b < 5 → a ≠ b → (TX0 a).2.1 ≠ (TX0 b).2.1 := by decide +kernel
theorem tyX0_ok : ∀ k, k < 5 → parseFieldDescriptor (TX0 k).2.2.1 = some (tyX0 k) := by decide +kernel
abbrev cX0_init : ByteArray := prog_2_method_1_code
def yX0_init : MethodName := ⟨RX0, "<init>", "()V"⟩
abbrev cX0_run : ByteArray := prog_2_method_2_code
def yX0_run : MethodName := ⟨RX0, "run", "(LCageLeave$Plan;LCageLeave$Now;LCageLeave$Weeks;I)V"⟩
abbrev cX0_endRound : ByteArray := prog_2_method_3_code
def yX0_endRound : MethodName := ⟨RX0, "endRound", "(LCageLeave$Weeks;I)V"⟩
abbrev cX0_isDone : ByteArray := prog_2_method_4_code
def yX0_isDone : MethodName := ⟨RX0, "isDone", "(LCageLeave$Plan;LCageLeave$Now;LCageLeave$Weeks;I)Z"⟩
abbrev cX0_areHoursDone : ByteArray := prog_2_method_5_code
def yX0_areHoursDone : MethodName := ⟨RX0, "areHoursDone", "(LCageLeave$Plan;LCageLeave$Now;I)Z"⟩
abbrev cX0_isMondayDone : ByteArray := prog_2_method_6_code
def yX0_isMondayDone : MethodName := ⟨RX0, "isMondayDone", "(LCageLeave$Plan;LCageLeave$Now;)Z"⟩
abbrev cX0_isSnowDone : ByteArray := prog_2_method_7_code
def yX0_isSnowDone : MethodName := ⟨RX0, "isSnowDone", "(LCageLeave$Plan;LCageLeave$Now;)Z"⟩
abbrev cX0_isSo : ByteArray := prog_2_method_8_code
def yX0_isSo : MethodName := ⟨RX0, "isSo", "(LCageLeave$Now;LCageLeave$Weeks;I)Z"⟩
def RX1 : String := "CageLeave$Now"
def TX1 : u_T := fun k => match k with
  | 0 => ("CageLeave$Now", "week", "I", false)
  | 1 => ("CageLeave$Now", "hour", "I", false)
  | 2 => ("CageLeave$Now", "out", "I", false)
  | 3 => ("CageLeave$Now", "eaten", "I", false)
  | 4 => ("CageLeave$Now", "halted", "I", false)
  | 5 => ("CageLeave$Now", "tickets", "[I", true)
  | 6 => ("CageLeave$Now", "late", "[I", true)
  | 7 => ("CageLeave$Now", "inPlace", "[I", true)
  | 8 => ("CageLeave$Now", "onTrain", "[I", true)
  | 9 => ("CageLeave$Now", "due", "[I", true)
  | 10 => ("CageLeave$Now", "eater", "[I", true)
  | _ => ("CageLeave$Now", "eatenAt", "[I", true)
def tyX1 : Nat → FieldType := fun k => match k with
  | 0 => .int
  | 1 => .int
  | 2 => .int
  | 3 => .int
  | 4 => .int
  | 5 => .array .int
  | 6 => .array .int
  | 7 => .array .int
  | 8 => .array .int
  | 9 => .array .int
  | 10 => .array .int
  | _ => .array .int
abbrev wsX10 : List Cond := u_ws RX1 TX1 12
theorem nmX1 : ∀ a, a < 12 → ∀ b, b < 12 → a ≠ b → (TX1 a).2.1 ≠ (TX1 b).2.1 := by decide +kernel
theorem tyX1_ok : ∀ k, k < 12 → parseFieldDescriptor (TX1 k).2.2.1 = some (tyX1 k) := by decide +kernel
abbrev cX1_init : ByteArray := prog_3_method_1_code
def yX1_init : MethodName := ⟨RX1, "<init>", "()V"⟩
abbrev cX1_copyFrom : ByteArray := prog_3_method_2_code
def yX1_copyFrom : MethodName := ⟨RX1, "copyFrom", "(LCageLeave$Now;)V"⟩
abbrev cX1_clear : ByteArray := prog_3_method_3_code
def yX1_clear : MethodName := ⟨RX1, "clear", "(LCageLeave$Plan;)V"⟩
abbrev cX1_cageAll : ByteArray := prog_3_method_4_code
def yX1_cageAll : MethodName := ⟨RX1, "cageAll", "(LCageLeave$Plan;)V"⟩
abbrev cX1_letOut : ByteArray := prog_3_method_5_code
def yX1_letOut : MethodName := ⟨RX1, "letOut", "(LCageLeave$Plan;LCageLeave$Now;I)V"⟩
abbrev cX1_isEaten : ByteArray := prog_3_method_6_code
def yX1_isEaten : MethodName := ⟨RX1, "isEaten", "(I)Z"⟩
abbrev cX1_riders : ByteArray := prog_3_method_7_code
def yX1_riders : MethodName := ⟨RX1, "riders", "()I"⟩
abbrev cX1_lateInAll : ByteArray := prog_3_method_8_code
def yX1_lateInAll : MethodName := ⟨RX1, "lateInAll", "()I"⟩
abbrev cX1_spotOf : ByteArray := prog_3_method_9_code
def yX1_spotOf : MethodName := ⟨RX1, "spotOf", "(LCageLeave$Plan;I)I"⟩
abbrev cX1_hasTogether : ByteArray := prog_3_method_10_code
def yX1_hasTogether : MethodName := ⟨RX1, "hasTogether", "(LCageLeave$Plan;II)Z"⟩
abbrev cX1_turnTicket : ByteArray := prog_3_method_11_code
def yX1_turnTicket : MethodName := ⟨RX1, "turnTicket", "(II)V"⟩
abbrev cX1_turnOut : ByteArray := prog_3_method_12_code
def yX1_turnOut : MethodName := ⟨RX1, "turnOut", "(I)V"⟩
abbrev cX1_turnHalt : ByteArray := prog_3_method_13_code
def yX1_turnHalt : MethodName := ⟨RX1, "turnHalt", "(I)V"⟩
abbrev cX1_passUntil : ByteArray := prog_3_method_14_code
def yX1_passUntil : MethodName := ⟨RX1, "passUntil", "(LCageLeave$Plan;I)I"⟩
abbrev cX1_isBusy : ByteArray := prog_3_method_15_code
def yX1_isBusy : MethodName := ⟨RX1, "isBusy", "(LCageLeave$Plan;)Z"⟩
abbrev cX1_arrive : ByteArray := prog_3_method_16_code
def yX1_arrive : MethodName := ⟨RX1, "arrive", "(LCageLeave$Plan;)V"⟩
abbrev cX1_depart : ByteArray := prog_3_method_17_code
def yX1_depart : MethodName := ⟨RX1, "depart", "(LCageLeave$Plan;)V"⟩
abbrev cX1_board : ByteArray := prog_3_method_18_code
def yX1_board : MethodName := ⟨RX1, "board", "(LCageLeave$Plan;I)V"⟩
abbrev cX1_feast : ByteArray := prog_3_method_19_code
def yX1_feast : MethodName := ⟨RX1, "feast", "(LCageLeave$Plan;)V"⟩
abbrev cX1_leftBy : ByteArray := prog_3_method_20_code
def yX1_leftBy : MethodName := ⟨RX1, "leftBy", "(LCageLeave$Plan;I)I"⟩
abbrev cX1_fetchAll : ByteArray := prog_3_method_21_code
def yX1_fetchAll : MethodName := ⟨RX1, "fetchAll", "(LCageLeave$Plan;)I"⟩
def RX2 : String := "CageLeave$ParkReader"
def TX2 : u_T := fun k => match k with
  | 0 => ("CageLeave$ParkReader", "text", "LCageLeave$Text;", true)
  | 1 => ("CageLeave$ParkReader", "plan", "LCageLeave$Plan;", true)
  | 2 => ("CageLeave$ParkReader", "now", "LCageLeave$Now;", true)
  | _ => ("CageLeave$ParkReader", "oddsTold", "Z", false)
def tyX2 : Nat → FieldType := fun k => match k with
  | 0 => .object "CageLeave$Text"
  | 1 => .object "CageLeave$Plan"
  | 2 => .object "CageLeave$Now"
  | _ => .boolean
abbrev wsX20 : List Cond := u_ws RX2 TX2 4
theorem nmX2 : ∀ a, a < 4 → ∀ b, b < 4 → a ≠ b → (TX2 a).2.1 ≠ (TX2 b).2.1 := by decide +kernel
theorem tyX2_ok : ∀ k, k < 4 → parseFieldDescriptor (TX2 k).2.2.1 = some (tyX2 k) := by decide +kernel
abbrev cX2_init : ByteArray := prog_4_method_1_code
def yX2_init : MethodName := ⟨RX2, "<init>", "(LCageLeave$Text;)V"⟩
abbrev cX2_takesAll : ByteArray := prog_4_method_2_code
def yX2_takesAll : MethodName := ⟨RX2, "takesAll", "(I)Z"⟩
abbrev cX2_takeOdds : ByteArray := prog_4_method_3_code
def yX2_takeOdds : MethodName := ⟨RX2, "takeOdds", "()V"⟩
abbrev cX2_takePlace : ByteArray := prog_4_method_4_code
def yX2_takePlace : MethodName := ⟨RX2, "takePlace", "()V"⟩
abbrev cX2_takeTrain : ByteArray := prog_4_method_5_code
def yX2_takeTrain : MethodName := ⟨RX2, "takeTrain", "()V"⟩
abbrev cX2_takeBeast : ByteArray := prog_4_method_6_code
def yX2_takeBeast : MethodName := ⟨RX2, "takeBeast", "()V"⟩
abbrev cX2_takeHunts : ByteArray := prog_4_method_7_code
def yX2_takeHunts : MethodName := ⟨RX2, "takeHunts", "()V"⟩
abbrev cX2_takeTicket : ByteArray := prog_4_method_8_code
def yX2_takeTicket : MethodName := ⟨RX2, "takeTicket", "()V"⟩
abbrev cX2_optional : ByteArray := prog_4_method_9_code
def yX2_optional : MethodName := ⟨RX2, "optional", "(IIII)I"⟩
abbrev cX2_passNewName : ByteArray := prog_4_method_10_code
def yX2_passNewName : MethodName := ⟨RX2, "passNewName", "(II)V"⟩
def RX3 : String := "CageLeave$Parrot"
def TX3 : u_T := fun k => match k with
  | 0 => ("CageLeave$Parrot", "threes", "I", false)
  | 1 => ("CageLeave$Parrot", "hour", "[I", true)
  | 2 => ("CageLeave$Parrot", "place", "[I", true)
  | _ => ("CageLeave$Parrot", "beast", "[I", true)
def tyX3 : Nat → FieldType := fun k => match k with
  | 0 => .int
  | 1 => .array .int
  | 2 => .array .int
  | _ => .array .int
abbrev wsX30 : List Cond := u_ws RX3 TX3 4
theorem nmX3 : ∀ a, a < 4 → ∀ b, b < 4 → a ≠ b → (TX3 a).2.1 ≠ (TX3 b).2.1 := by decide +kernel
theorem tyX3_ok : ∀ k, k < 4 → parseFieldDescriptor (TX3 k).2.2.1 = some (tyX3 k) := by decide +kernel
abbrev cX3_init : ByteArray := prog_5_method_1_code
def yX3_init : MethodName := ⟨RX3, "<init>", "()V"⟩
abbrev cX3_hears : ByteArray := prog_5_method_2_code
def yX3_hears : MethodName := ⟨RX3, "hears", "(LCageLeave$Plan;[JI)Z"⟩
abbrev cX3_insert : ByteArray := prog_5_method_3_code
def yX3_insert : MethodName := ⟨RX3, "insert", "(III)V"⟩
abbrev cX3_slipsIf : ByteArray := prog_5_method_4_code
def yX3_slipsIf : MethodName := ⟨RX3, "slipsIf", "(LCageLeave$Plan;LCageLeave$Now;LCageLeave$Now;I)I"⟩
def RX4 : String := "CageLeave$Plan"
def TX4 : u_T := fun k => match k with
  | 0 => ("CageLeave$Plan", "places", "I", false)
  | 1 => ("CageLeave$Plan", "trains", "I", false)
  | 2 => ("CageLeave$Plan", "beasts", "I", false)
  | 3 => ("CageLeave$Plan", "odds", "I", false)
  | 4 => ("CageLeave$Plan", "names", "I", false)
  | 5 => ("CageLeave$Plan", "name", "[J", true)
  | 6 => ("CageLeave$Plan", "nameOf", "[I", true)
  | 7 => ("CageLeave$Plan", "nameNumber", "[I", true)
  | 8 => ("CageLeave$Plan", "from", "[I", true)
  | 9 => ("CageLeave$Plan", "to", "[I", true)
  | 10 => ("CageLeave$Plan", "at", "[I", true)
  | 11 => ("CageLeave$Plan", "takes", "[I", true)
  | 12 => ("CageLeave$Plan", "seats", "[I", true)
  | 13 => ("CageLeave$Plan", "size", "[I", true)
  | 14 => ("CageLeave$Plan", "trust", "[I", true)
  | _ => ("CageLeave$Plan", "hunts", "[I", true)
def tyX4 : Nat → FieldType := fun k => match k with
  | 0 => .int
  | 1 => .int
  | 2 => .int
  | 3 => .int
  | 4 => .int
  | 5 => .array .long
  | 6 => .array .int
  | 7 => .array .int
  | 8 => .array .int
  | 9 => .array .int
  | 10 => .array .int
  | 11 => .array .int
  | 12 => .array .int
  | 13 => .array .int
  | 14 => .array .int
  | _ => .array .int
abbrev wsX40 : List Cond := u_ws RX4 TX4 16
theorem nmX4 : ∀ a, a < 16 → ∀ b, b < 16 → a ≠ b → (TX4 a).2.1 ≠ (TX4 b).2.1 := by decide +kernel
theorem tyX4_ok : ∀ k, k < 16 → parseFieldDescriptor (TX4 k).2.2.1 = some (tyX4 k) := by decide +kernel
abbrev cX4_init : ByteArray := prog_6_method_1_code
def yX4_init : MethodName := ⟨RX4, "<init>", "()V"⟩
abbrev cX4_clear : ByteArray := prog_6_method_2_code
def yX4_clear : MethodName := ⟨RX4, "clear", "()V"⟩
abbrev cX4_copyFrom : ByteArray := prog_6_method_3_code
def yX4_copyFrom : MethodName := ⟨RX4, "copyFrom", "(LCageLeave$Plan;)V"⟩
abbrev cX4_hasName : ByteArray := prog_6_method_4_code
def yX4_hasName : MethodName := ⟨RX4, "hasName", "(J)Z"⟩
abbrev cX4_addName : ByteArray := prog_6_method_5_code
def yX4_addName : MethodName := ⟨RX4, "addName", "(JII)V"⟩
abbrev cX4_numberAt : ByteArray := prog_6_method_6_code
def yX4_numberAt : MethodName := ⟨RX4, "numberAt", "(LCageLeave$Text;I)I"⟩
abbrev cX4_firstHunter : ByteArray := prog_6_method_7_code
def yX4_firstHunter : MethodName := ⟨RX4, "firstHunter", "(II)I"⟩
def RX5 : String := "CageLeave$Rooms"
def TX5 : u_T := fun k => match k with
  | 0 => ("CageLeave$Rooms", "weight", "[I", true)
  | _ => ("CageLeave$Rooms", "need", "[I", true)
def tyX5 : Nat → FieldType := fun k => match k with
  | 0 => .array .int
  | _ => .array .int
abbrev wsX50 : List Cond := u_ws RX5 TX5 2
theorem nmX5 : ∀ a, a < 2 → ∀ b, b < 2 → a ≠ b → (TX5 a).2.1 ≠ (TX5 b).2.1 := by decide +kernel
theorem tyX5_ok : ∀ k, k < 2 → parseFieldDescriptor (TX5 k).2.2.1 = some (tyX5 k) := by decide +kernel
abbrev cX5_init : ByteArray := prog_7_method_1_code
def yX5_init : MethodName := ⟨RX5, "<init>", "()V"⟩
abbrev cX5_weigh : ByteArray := prog_7_method_2_code
def yX5_weigh : MethodName := ⟨RX5, "weigh", "(LCageLeave$Plan;)V"⟩
abbrev cX5_fewest : ByteArray := prog_7_method_3_code
def yX5_fewest : MethodName := ⟨RX5, "fewest", "(II)I"⟩
abbrev cX5_fewestOf : ByteArray := prog_7_method_4_code
def yX5_fewestOf : MethodName := ⟨RX5, "fewestOf", "(II)I"⟩
def RX6 : String := "CageLeave$Text"
def TX6 : u_T := fun k => match k with
  | 0 => ("CageLeave$Text", "bytes", "[B", true)
  | 1 => ("CageLeave$Text", "fed", "I", false)
  | 2 => ("CageLeave$Text", "fault", "I", false)
  | 3 => ("CageLeave$Text", "faultAt", "I", false)
  | 4 => ("CageLeave$Text", "kind", "I", false)
  | 5 => ("CageLeave$Text", "start", "I", false)
  | 6 => ("CageLeave$Text", "value", "I", false)
  | 7 => ("CageLeave$Text", "name", "J", false)
  | 8 => ("CageLeave$Text", "length", "I", false)
  | 9 => ("CageLeave$Text", "next", "I", false)
  | _ => ("CageLeave$Text", "keyword", "[J", true)
def tyX6 : Nat → FieldType := fun k => match k with
  | 0 => .array .byte
  | 1 => .int
  | 2 => .int
  | 3 => .int
  | 4 => .int
  | 5 => .int
  | 6 => .int
  | 7 => .long
  | 8 => .int
  | 9 => .int
  | _ => .array .long
abbrev wsX60 : List Cond := u_ws RX6 TX6 11
theorem nmX6 : ∀ a, a < 11 → ∀ b, b < 11 → a ≠ b → (TX6 a).2.1 ≠ (TX6 b).2.1 := by decide +kernel
theorem tyX6_ok : ∀ k, k < 11 → parseFieldDescriptor (TX6 k).2.2.1 = some (tyX6 k) := by decide +kernel
abbrev cX6_init : ByteArray := prog_8_method_1_code
def yX6_init : MethodName := ⟨RX6, "<init>", "()V"⟩
abbrev cX6_withLetter : ByteArray := prog_8_method_2_code
def yX6_withLetter : MethodName := ⟨RX6, "withLetter", "(JI)J"⟩
abbrev cX6_add : ByteArray := prog_8_method_3_code
def yX6_add : MethodName := ⟨RX6, "add", "(I)V"⟩
abbrev cX6_open : ByteArray := prog_8_method_4_code
def yX6_open : MethodName := ⟨RX6, "open", "(I)V"⟩
abbrev cX6_wordAt : ByteArray := prog_8_method_5_code
def yX6_wordAt : MethodName := ⟨RX6, "wordAt", "()I"⟩
abbrev cX6_isAt : ByteArray := prog_8_method_6_code
def yX6_isAt : MethodName := ⟨RX6, "isAt", "(I)Z"⟩
abbrev cX6_fail : ByteArray := prog_8_method_7_code
def yX6_fail : MethodName := ⟨RX6, "fail", "(I)V"⟩
abbrev cX6_passWord : ByteArray := prog_8_method_8_code
def yX6_passWord : MethodName := ⟨RX6, "passWord", "(I)V"⟩
abbrev cX6_passSign : ByteArray := prog_8_method_9_code
def yX6_passSign : MethodName := ⟨RX6, "passSign", "(C)V"⟩
abbrev cX6_passNumber : ByteArray := prog_8_method_10_code
def yX6_passNumber : MethodName := ⟨RX6, "passNumber", "(II)I"⟩
abbrev cX6_advance : ByteArray := prog_8_method_11_code
def yX6_advance : MethodName := ⟨RX6, "advance", "()V"⟩
abbrev cX6_lookAtWord : ByteArray := prog_8_method_12_code
def yX6_lookAtWord : MethodName := ⟨RX6, "lookAtWord", "()V"⟩
abbrev cX6_lookAtNumber : ByteArray := prog_8_method_13_code
def yX6_lookAtNumber : MethodName := ⟨RX6, "lookAtNumber", "()V"⟩
abbrev cX6_isBlank : ByteArray := prog_8_method_14_code
def yX6_isBlank : MethodName := ⟨RX6, "isBlank", "(I)Z"⟩
abbrev cX6_isLetter : ByteArray := prog_8_method_15_code
def yX6_isLetter : MethodName := ⟨RX6, "isLetter", "(I)Z"⟩
abbrev cX6_isDigit : ByteArray := prog_8_method_16_code
def yX6_isDigit : MethodName := ⟨RX6, "isDigit", "(I)Z"⟩
def RX7 : String := "CageLeave$Trays"
def TX7 : u_T := fun k => match k with
  | 0 => ("CageLeave$Trays", "row", "[[J", true)
  | 1 => ("CageLeave$Trays", "sort", "[I", true)
  | _ => ("CageLeave$Trays", "many", "[I", true)
def tyX7 : Nat → FieldType := fun k => match k with
  | 0 => .array (.array .long)
  | 1 => .array .int
  | _ => .array .int
abbrev wsX70 : List Cond := u_ws RX7 TX7 3
theorem nmX7 : ∀ a, a < 3 → ∀ b, b < 3 → a ≠ b → (TX7 a).2.1 ≠ (TX7 b).2.1 := by decide +kernel
theorem tyX7_ok : ∀ k, k < 3 → parseFieldDescriptor (TX7 k).2.2.1 = some (tyX7 k) := by decide +kernel
abbrev cX7_init : ByteArray := prog_9_method_1_code
def yX7_init : MethodName := ⟨RX7, "<init>", "()V"⟩
abbrev cX7_isTray : ByteArray := prog_9_method_2_code
def yX7_isTray : MethodName := ⟨RX7, "isTray", "(I)Z"⟩
abbrev cX7_isMissing : ByteArray := prog_9_method_3_code
def yX7_isMissing : MethodName := ⟨RX7, "isMissing", "(I)Z"⟩
abbrev cX7_lay : ByteArray := prog_9_method_4_code
def yX7_lay : MethodName := ⟨RX7, "lay", "(III)V"⟩
abbrev cX7_whyNotLong : ByteArray := prog_9_method_5_code
def yX7_whyNotLong : MethodName := ⟨RX7, "whyNotLong", "(II)I"⟩
abbrev cX7_whyNotAt : ByteArray := prog_9_method_6_code
def yX7_whyNotAt : MethodName := ⟨RX7, "whyNotAt", "(II)I"⟩
abbrev cX7_hasRun : ByteArray := prog_9_method_7_code
def yX7_hasRun : MethodName := ⟨RX7, "hasRun", "(III)Z"⟩
abbrev cX7_put : ByteArray := prog_9_method_8_code
def yX7_put : MethodName := ⟨RX7, "put", "(IIJ)V"⟩
def RX8 : String := "CageLeave$Ways"
def TX8 : u_T := fun k => match k with
  | 0 => ("CageLeave$Ways", "there", "[I", true)
  | _ => ("CageLeave$Ways", "byHour", "[I", true)
def tyX8 : Nat → FieldType := fun k => match k with
  | 0 => .array .int
  | _ => .array .int
abbrev wsX80 : List Cond := u_ws RX8 TX8 2
theorem nmX8 : ∀ a, a < 2 → ∀ b, b < 2 → a ≠ b → (TX8 a).2.1 ≠ (TX8 b).2.1 := by decide +kernel
theorem tyX8_ok : ∀ k, k < 2 → parseFieldDescriptor (TX8 k).2.2.1 = some (tyX8 k) := by decide +kernel
abbrev cX8_init : ByteArray := prog_10_method_1_code
def yX8_init : MethodName := ⟨RX8, "<init>", "()V"⟩
abbrev cX8_order : ByteArray := prog_10_method_2_code
def yX8_order : MethodName := ⟨RX8, "order", "(LCageLeave$Plan;)V"⟩
abbrev cX8_setOut : ByteArray := prog_10_method_3_code
def yX8_setOut : MethodName := ⟨RX8, "setOut", "(LCageLeave$Plan;III)V"⟩
abbrev cX8_soon : ByteArray := prog_10_method_4_code
def yX8_soon : MethodName := ⟨RX8, "soon", "(LCageLeave$Plan;IIII)I"⟩
abbrev cX8_soonWith : ByteArray := prog_10_method_5_code
def yX8_soonWith : MethodName := ⟨RX8, "soonWith", "(LCageLeave$Plan;III)I"⟩
abbrev cX8_firstTrain : ByteArray := prog_10_method_6_code
def yX8_firstTrain : MethodName := ⟨RX8, "firstTrain", "(LCageLeave$Plan;IIII)I"⟩
abbrev cX8_lastStart : ByteArray := prog_10_method_7_code
def yX8_lastStart : MethodName := ⟨RX8, "lastStart", "(LCageLeave$Plan;IIII)I"⟩
def RX9 : String := "CageLeave$Weeks"
def TX9 : u_T := fun k => match k with
  | 0 => ("CageLeave$Weeks", "told", "Z", false)
  | 1 => ("CageLeave$Weeks", "steps", "I", false)
  | 2 => ("CageLeave$Weeks", "rows", "I", false)
  | 3 => ("CageLeave$Weeks", "word", "[I", true)
  | 4 => ("CageLeave$Weeks", "first", "[I", true)
  | 5 => ("CageLeave$Weeks", "second", "[I", true)
  | _ => ("CageLeave$Weeks", "mate", "[I", true)
def tyX9 : Nat → FieldType := fun k => match k with
  | 0 => .boolean
  | 1 => .int
  | 2 => .int
  | 3 => .array .int
  | 4 => .array .int
  | 5 => .array .int
  | _ => .array .int
abbrev wsX90 : List Cond := u_ws RX9 TX9 7
theorem nmX9 : ∀ a, a < 7 → ∀ b, b < 7 → a ≠ b → (TX9 a).2.1 ≠ (TX9 b).2.1 := by decide +kernel
theorem tyX9_ok : ∀ k, k < 7 → parseFieldDescriptor (TX9 k).2.2.1 = some (tyX9 k) := by decide +kernel
abbrev cX9_init : ByteArray := prog_11_method_1_code
def yX9_init : MethodName := ⟨RX9, "<init>", "()V"⟩
abbrev cX9_forget : ByteArray := prog_11_method_2_code
def yX9_forget : MethodName := ⟨RX9, "forget", "()V"⟩
abbrev cX9_copyFrom : ByteArray := prog_11_method_3_code
def yX9_copyFrom : MethodName := ⟨RX9, "copyFrom", "(LCageLeave$Weeks;)V"⟩
abbrev cX9_add : ByteArray := prog_11_method_4_code
def yX9_add : MethodName := ⟨RX9, "add", "(III)V"⟩
def RX10 : String := "CageLeave$WeeksReader"
def TX10 : u_T := fun k => match k with
  | 0 => ("CageLeave$WeeksReader", "text", "LCageLeave$Text;", true)
  | 1 => ("CageLeave$WeeksReader", "weeks", "LCageLeave$Weeks;", true)
  | 2 => ("CageLeave$WeeksReader", "open", "[I", true)
  | _ => ("CageLeave$WeeksReader", "depth", "I", false)
def tyX10 : Nat → FieldType := fun k => match k with
  | 0 => .object "CageLeave$Text"
  | 1 => .object "CageLeave$Weeks"
  | 2 => .array .int
  | _ => .int
abbrev wsX100 : List Cond := u_ws RX10 TX10 4
theorem nmX10 : ∀ a, a < 4 → ∀ b, b < 4 → a ≠ b → (TX10 a).2.1 ≠ (TX10 b).2.1 := by decide +kernel
theorem tyX10_ok : ∀ k, k < 4 → parseFieldDescriptor (TX10 k).2.2.1 = some (tyX10 k) := by decide +kernel
abbrev cX10_init : ByteArray := prog_12_method_1_code
def yX10_init : MethodName := ⟨RX10, "<init>", "(LCageLeave$Text;)V"⟩
abbrev cX10_takesAll : ByteArray := prog_12_method_2_code
def yX10_takesAll : MethodName := ⟨RX10, "takesAll", "(ILCageLeave$Plan;)Z"⟩
abbrev cX10_takeEnd : ByteArray := prog_12_method_3_code
def yX10_takeEnd : MethodName := ⟨RX10, "takeEnd", "()V"⟩
abbrev cX10_takeStep : ByteArray := prog_12_method_4_code
def yX10_takeStep : MethodName := ⟨RX10, "takeStep", "(LCageLeave$Plan;)V"⟩
abbrev cX10_mayBegin : ByteArray := prog_12_method_5_code
def yX10_mayBegin : MethodName := ⟨RX10, "mayBegin", "(I)Z"⟩
abbrev cX10_isStep : ByteArray := prog_12_method_6_code
def yX10_isStep : MethodName := ⟨RX10, "isStep", "(I)Z"⟩
abbrev cX10_takeTest : ByteArray := prog_12_method_7_code
def yX10_takeTest : MethodName := ⟨RX10, "takeTest", "(LCageLeave$Plan;)V"⟩
abbrev cX10_takeNames : ByteArray := prog_12_method_8_code
def yX10_takeNames : MethodName := ⟨RX10, "takeNames", "(LCageLeave$Plan;III)V"⟩
def RX11 : String := "CageLeave"
def TX11 : u_T := fun k => match k with
  | 0 => ("CageLeave", "status", "I", false)
  | 1 => ("CageLeave", "top", "J", false)
  | 2 => ("CageLeave", "bottom", "J", false)
  | 3 => ("CageLeave", "trays", "LCageLeave$Trays;", true)
  | 4 => ("CageLeave", "text", "LCageLeave$Text;", true)
  | 5 => ("CageLeave", "parkReader", "LCageLeave$ParkReader;", true)
  | 6 => ("CageLeave", "weeksReader", "LCageLeave$WeeksReader;", true)
  | 7 => ("CageLeave", "plan", "LCageLeave$Plan;", true)
  | 8 => ("CageLeave", "now", "LCageLeave$Now;", true)
  | 9 => ("CageLeave", "weeks", "LCageLeave$Weeks;", true)
  | 10 => ("CageLeave", "keptPlans", "[LCageLeave$Plan;", true)
  | 11 => ("CageLeave", "keptNows", "[LCageLeave$Now;", true)
  | 12 => ("CageLeave", "keptWeeks", "[LCageLeave$Weeks;", true)
  | 13 => ("CageLeave", "marks", "I", false)
  | 14 => ("CageLeave", "trial", "LCageLeave$Now;", true)
  | 15 => ("CageLeave", "ways", "LCageLeave$Ways;", true)
  | 16 => ("CageLeave", "shelter", "LCageLeave$Rooms;", true)
  | 17 => ("CageLeave", "parrot", "LCageLeave$Parrot;", true)
  | 18 => ("CageLeave", "life", "LCageLeave$Life;", true)
  | _ => ("CageLeave", "guess", "LCageLeave$Life;", true)
def tyX11 : Nat → FieldType := fun k => match k with
  | 0 => .int
  | 1 => .long
  | 2 => .long
  | 3 => .object "CageLeave$Trays"
  | 4 => .object "CageLeave$Text"
  | 5 => .object "CageLeave$ParkReader"
  | 6 => .object "CageLeave$WeeksReader"
  | 7 => .object "CageLeave$Plan"
  | 8 => .object "CageLeave$Now"
  | 9 => .object "CageLeave$Weeks"
  | 10 => .array (.object "CageLeave$Plan")
  | 11 => .array (.object "CageLeave$Now")
  | 12 => .array (.object "CageLeave$Weeks")
  | 13 => .int
  | 14 => .object "CageLeave$Now"
  | 15 => .object "CageLeave$Ways"
  | 16 => .object "CageLeave$Rooms"
  | 17 => .object "CageLeave$Parrot"
  | 18 => .object "CageLeave$Life"
  | _ => .object "CageLeave$Life"
abbrev wsX110 : List Cond := u_ws RX11 TX11 20
theorem nmX11 : ∀ a, a < 20 → ∀ b, b < 20 → a ≠ b → (TX11 a).2.1 ≠ (TX11 b).2.1 := by decide +kernel
theorem tyX11_ok : ∀ k, k < 20 → parseFieldDescriptor (TX11 k).2.2.1 = some (tyX11 k) := by decide +kernel
abbrev cX11_init : ByteArray := prog_1_method_1_code
def yX11_init : MethodName := ⟨RX11, "<init>", "()V"⟩
abbrev cX11_status : ByteArray := prog_1_method_2_code
def yX11_status : MethodName := ⟨RX11, "status", "()I"⟩
abbrev cX11_top : ByteArray := prog_1_method_3_code
def yX11_top : MethodName := ⟨RX11, "top", "()J"⟩
abbrev cX11_bottom : ByteArray := prog_1_method_4_code
def yX11_bottom : MethodName := ⟨RX11, "bottom", "()J"⟩
abbrev cX11_tray : ByteArray := prog_1_method_5_code
def yX11_tray : MethodName := ⟨RX11, "tray", "(III)Z"⟩
abbrev cX11_write : ByteArray := prog_1_method_6_code
def yX11_write : MethodName := ⟨RX11, "write", "(IIJ)Z"⟩
abbrev cX11_read : ByteArray := prog_1_method_7_code
def yX11_read : MethodName := ⟨RX11, "read", "(II)J"⟩
abbrev cX11_pour : ByteArray := prog_1_method_8_code
def yX11_pour : MethodName := ⟨RX11, "pour", "(IIIII)Z"⟩
abbrev cX11_feed : ByteArray := prog_1_method_9_code
def yX11_feed : MethodName := ⟨RX11, "feed", "(IIIII)I"⟩
abbrev cX11_park : ByteArray := prog_1_method_10_code
def yX11_park : MethodName := ⟨RX11, "park", "(I)I"⟩
abbrev cX11_weeks : ByteArray := prog_1_method_11_code
def yX11_weeks : MethodName := ⟨RX11, "weeks", "(I)I"⟩
abbrev cX11_fault : ByteArray := prog_1_method_12_code
def yX11_fault : MethodName := ⟨RX11, "fault", "(I)I"⟩
abbrev cX11_told : ByteArray := prog_1_method_13_code
def yX11_told : MethodName := ⟨RX11, "told", "(I)I"⟩
abbrev cX11_train : ByteArray := prog_1_method_14_code
def yX11_train : MethodName := ⟨RX11, "train", "(II)I"⟩
abbrev cX11_beast : ByteArray := prog_1_method_15_code
def yX11_beast : MethodName := ⟨RX11, "beast", "(II)I"⟩
abbrev cX11_at : ByteArray := prog_1_method_16_code
def yX11_at : MethodName := ⟨RX11, "at", "(I)I"⟩
abbrev cX11_there : ByteArray := prog_1_method_17_code
def yX11_there : MethodName := ⟨RX11, "there", "(I)I"⟩
abbrev cX11_together : ByteArray := prog_1_method_18_code
def yX11_together : MethodName := ⟨RX11, "together", "(II)I"⟩
abbrev cX11_hour : ByteArray := prog_1_method_19_code
def yX11_hour : MethodName := ⟨RX11, "hour", "(I)I"⟩
abbrev cX11_monday : ByteArray := prog_1_method_20_code
def yX11_monday : MethodName := ⟨RX11, "monday", "()I"⟩
abbrev cX11_ticket : ByteArray := prog_1_method_21_code
def yX11_ticket : MethodName := ⟨RX11, "ticket", "(IIZ)Z"⟩
abbrev cX11_let : ByteArray := prog_1_method_22_code
def yX11_let : MethodName := ⟨RX11, "let", "(IZ)Z"⟩
abbrev cX11_halt : ByteArray := prog_1_method_23_code
def yX11_halt : MethodName := ⟨RX11, "halt", "(IZ)Z"⟩
abbrev cX11_trust : ByteArray := prog_1_method_24_code
def yX11_trust : MethodName := ⟨RX11, "trust", "(II)Z"⟩
abbrev cX11_shift : ByteArray := prog_1_method_25_code
def yX11_shift : MethodName := ⟨RX11, "shift", "(II)Z"⟩
abbrev cX11_hunt : ByteArray := prog_1_method_26_code
def yX11_hunt : MethodName := ⟨RX11, "hunt", "(IIZ)Z"⟩
abbrev cX11_mourn : ByteArray := prog_1_method_27_code
def yX11_mourn : MethodName := ⟨RX11, "mourn", "(I)Z"⟩
abbrev cX11_rule : ByteArray := prog_1_method_28_code
def yX11_rule : MethodName := ⟨RX11, "rule", "(I)Z"⟩
abbrev cX11_where : ByteArray := prog_1_method_29_code
def yX11_where : MethodName := ⟨RX11, "where", "(II)I"⟩
abbrev cX11_eatenAt : ByteArray := prog_1_method_30_code
def yX11_eatenAt : MethodName := ⟨RX11, "eatenAt", "(I)I"⟩
abbrev cX11_eater : ByteArray := prog_1_method_31_code
def yX11_eater : MethodName := ⟨RX11, "eater", "(I)I"⟩
abbrev cX11_meet : ByteArray := prog_1_method_32_code
def yX11_meet : MethodName := ⟨RX11, "meet", "(II)I"⟩
abbrev cX11_lateBy : ByteArray := prog_1_method_33_code
def yX11_lateBy : MethodName := ⟨RX11, "lateBy", "()I"⟩
abbrev cX11_peace : ByteArray := prog_1_method_34_code
def yX11_peace : MethodName := ⟨RX11, "peace", "(I)I"⟩
abbrev cX11_eatenBy : ByteArray := prog_1_method_35_code
def yX11_eatenBy : MethodName := ⟨RX11, "eatenBy", "(I)I"⟩
abbrev cX11_most : ByteArray := prog_1_method_36_code
def yX11_most : MethodName := ⟨RX11, "most", "()I"⟩
abbrev cX11_soonest : ByteArray := prog_1_method_37_code
def yX11_soonest : MethodName := ⟨RX11, "soonest", "(III)I"⟩
abbrev cX11_soonestBy : ByteArray := prog_1_method_38_code
def yX11_soonestBy : MethodName := ⟨RX11, "soonestBy", "(III)I"⟩
abbrev cX11_latest : ByteArray := prog_1_method_39_code
def yX11_latest : MethodName := ⟨RX11, "latest", "(III)I"⟩
abbrev cX11_stay : ByteArray := prog_1_method_40_code
def yX11_stay : MethodName := ⟨RX11, "stay", "(I)I"⟩
abbrev cX11_reach : ByteArray := prog_1_method_41_code
def yX11_reach : MethodName := ⟨RX11, "reach", "()I"⟩
abbrev cX11_cut : ByteArray := prog_1_method_42_code
def yX11_cut : MethodName := ⟨RX11, "cut", "(I)I"⟩
abbrev cX11_cutSet : ByteArray := prog_1_method_43_code
def yX11_cutSet : MethodName := ⟨RX11, "cutSet", "(I)I"⟩
abbrev cX11_snow : ByteArray := prog_1_method_44_code
def yX11_snow : MethodName := ⟨RX11, "snow", "(I)Z"⟩
abbrev cX11_back : ByteArray := prog_1_method_45_code
def yX11_back : MethodName := ⟨RX11, "back", "(II)Z"⟩
abbrev cX11_wildest : ByteArray := prog_1_method_46_code
def yX11_wildest : MethodName := ⟨RX11, "wildest", "(I)I"⟩
abbrev cX11_rooms : ByteArray := prog_1_method_47_code
def yX11_rooms : MethodName := ⟨RX11, "rooms", "(II)I"⟩
abbrev cX11_roomSize : ByteArray := prog_1_method_48_code
def yX11_roomSize : MethodName := ⟨RX11, "roomSize", "(II)I"⟩
abbrev cX11_sets : ByteArray := prog_1_method_49_code
def yX11_sets : MethodName := ⟨RX11, "sets", "(III)I"⟩
abbrev cX11_sure : ByteArray := prog_1_method_50_code
def yX11_sure : MethodName := ⟨RX11, "sure", "(III)I"⟩
abbrev cX11_slips : ByteArray := prog_1_method_51_code
def yX11_slips : MethodName := ⟨RX11, "slips", "(II)I"⟩
abbrev cX11_copyPlaces : ByteArray := prog_1_method_52_code
def yX11_copyPlaces : MethodName := ⟨RX11, "copyPlaces", "(I)I"⟩
abbrev cX11_live : ByteArray := prog_1_method_53_code
def yX11_live : MethodName := ⟨RX11, "live", "(I)I"⟩
abbrev cX11_lived : ByteArray := prog_1_method_54_code
def yX11_lived : MethodName := ⟨RX11, "lived", "(I)I"⟩
abbrev cX11_mean : ByteArray := prog_1_method_55_code
def yX11_mean : MethodName := ⟨RX11, "mean", "(II)Z"⟩
abbrev cX11_mark : ByteArray := prog_1_method_56_code
def yX11_mark : MethodName := ⟨RX11, "mark", "()I"⟩
abbrev cX11_undo : ByteArray := prog_1_method_57_code
def yX11_undo : MethodName := ⟨RX11, "undo", "()I"⟩
abbrev cX11_answer : ByteArray := prog_1_method_58_code
def yX11_answer : MethodName := ⟨RX11, "answer", "(I)I"⟩
abbrev cX11_refuse : ByteArray := prog_1_method_59_code
def yX11_refuse : MethodName := ⟨RX11, "refuse", "(I)I"⟩
abbrev cX11_allow : ByteArray := prog_1_method_60_code
def yX11_allow : MethodName := ⟨RX11, "allow", "()Z"⟩
abbrev cX11_deny : ByteArray := prog_1_method_61_code
def yX11_deny : MethodName := ⟨RX11, "deny", "(I)Z"⟩
abbrev cX11_tellFraction : ByteArray := prog_1_method_62_code
def yX11_tellFraction : MethodName := ⟨RX11, "tellFraction", "(JJ)Z"⟩
abbrev cX11_commonDivisor : ByteArray := prog_1_method_63_code
def yX11_commonDivisor : MethodName := ⟨RX11, "commonDivisor", "(JJ)J"⟩
abbrev cX11_power : ByteArray := prog_1_method_64_code
def yX11_power : MethodName := ⟨RX11, "power", "(JI)J"⟩
abbrev cX11_isIn : ByteArray := prog_1_method_65_code
def yX11_isIn : MethodName := ⟨RX11, "isIn", "(II)Z"⟩
abbrev cX11_isPlace : ByteArray := prog_1_method_66_code
def yX11_isPlace : MethodName := ⟨RX11, "isPlace", "(I)Z"⟩
abbrev cX11_isTrain : ByteArray := prog_1_method_67_code
def yX11_isTrain : MethodName := ⟨RX11, "isTrain", "(I)Z"⟩
abbrev cX11_isBeast : ByteArray := prog_1_method_68_code
def yX11_isBeast : MethodName := ⟨RX11, "isBeast", "(I)Z"⟩
abbrev cX11_areTwoBeasts : ByteArray := prog_1_method_69_code
def yX11_areTwoBeasts : MethodName := ⟨RX11, "areTwoBeasts", "(II)Z"⟩
abbrev cX11_isSet : ByteArray := prog_1_method_70_code
def yX11_isSet : MethodName := ⟨RX11, "isSet", "(I)Z"⟩
abbrev cX11_goOnUntil : ByteArray := prog_1_method_71_code
def yX11_goOnUntil : MethodName := ⟨RX11, "goOnUntil", "(I)V"⟩
abbrev cX11_whyNotEatenYet : ByteArray := prog_1_method_72_code
def yX11_whyNotEatenYet : MethodName := ⟨RX11, "whyNotEatenYet", "(I)I"⟩
abbrev cX11_whyNotLetOut : ByteArray := prog_1_method_73_code
def yX11_whyNotLetOut : MethodName := ⟨RX11, "whyNotLetOut", "(I)I"⟩
abbrev cX11_eatenOutside : ByteArray := prog_1_method_74_code
def yX11_eatenOutside : MethodName := ⟨RX11, "eatenOutside", "(I)I"⟩
abbrev cX11_leastCut : ByteArray := prog_1_method_75_code
def yX11_leastCut : MethodName := ⟨RX11, "leastCut", "(I)I"⟩
abbrev cX11_chancesOf : ByteArray := prog_1_method_76_code
def yX11_chancesOf : MethodName := ⟨RX11, "chancesOf", "(II)J"⟩
abbrev cX11_whyNotHeard : ByteArray := prog_1_method_77_code
def yX11_whyNotHeard : MethodName := ⟨RX11, "whyNotHeard", "(III)I"⟩
abbrev cX11_fitsParrot : ByteArray := prog_1_method_78_code
def yX11_fitsParrot : MethodName := ⟨RX11, "fitsParrot", "(II)Z"⟩
def RX12 : String := "CageLeaveModel"
def TX12 : u_T := fun k => match k with
  | 0 => ("CageLeaveModel", "at", "[I", true)
  | 1 => ("CageLeaveModel", "names", "[J", true)
  | 2 => ("CageLeaveModel", "status", "I", false)
  | 3 => ("CageLeaveModel", "top", "J", false)
  | 4 => ("CageLeaveModel", "bottom", "J", false)
  | 5 => ("CageLeaveModel", "sort", "[I", true)
  | 6 => ("CageLeaveModel", "trayMany", "[I", true)
  | 7 => ("CageLeaveModel", "trays", "[J", true)
  | 8 => ("CageLeaveModel", "tape", "[B", true)
  | 9 => ("CageLeaveModel", "text", "[B", true)
  | 10 => ("CageLeaveModel", "taped", "I", false)
  | 11 => ("CageLeaveModel", "size", "I", false)
  | 12 => ("CageLeaveModel", "token", "I", false)
  | 13 => ("CageLeaveModel", "from", "I", false)
  | 14 => ("CageLeaveModel", "end", "I", false)
  | 15 => ("CageLeaveModel", "value", "I", false)
  | 16 => ("CageLeaveModel", "faultKind", "I", false)
  | 17 => ("CageLeaveModel", "faultPlace", "I", false)
  | 18 => ("CageLeaveModel", "faults", "I", false)
  | 19 => ("CageLeaveModel", "seen", "I", false)
  | 20 => ("CageLeaveModel", "areOddsTold", "Z", false)
  | 21 => ("CageLeaveModel", "opened", "[I", true)
  | 22 => ("CageLeaveModel", "depth", "I", false)
  | 23 => ("CageLeaveModel", "counted", "I", false)
  | 24 => ("CageLeaveModel", "whereBy", "[I", true)
  | 25 => ("CageLeaveModel", "eatenBy0", "[I", true)
  | 26 => ("CageLeaveModel", "eaterBy", "[I", true)
  | 27 => ("CageLeaveModel", "lateThen", "I", false)
  | 28 => ("CageLeaveModel", "soonAt", "[I", true)
  | 29 => ("CageLeaveModel", "backBy", "[J", true)
  | 30 => ("CageLeaveModel", "roomsBy", "[I", true)
  | 31 => ("CageLeaveModel", "slipsBy", "[I", true)
  | 32 => ("CageLeaveModel", "drawn", "I", false)
  | 33 => ("CageLeaveModel", "ranSteps", "I", false)
  | 34 => ("CageLeaveModel", "loops", "[I", true)
  | 35 => ("CageLeaveModel", "ran", "[I", true)
  | 36 => ("CageLeaveModel", "told1", "[I", true)
  | 37 => ("CageLeaveModel", "isTold", "Z", false)
  | _ => ("CageLeaveModel", "marks", "I", false)
def tyX12 : Nat → FieldType := fun k => match k with
  | 0 => .array .int
  | 1 => .array .long
  | 2 => .int
  | 3 => .long
  | 4 => .long
  | 5 => .array .int
  | 6 => .array .int
  | 7 => .array .long
  | 8 => .array .byte
  | 9 => .array .byte
  | 10 => .int
  | 11 => .int
  | 12 => .int
  | 13 => .int
  | 14 => .int
  | 15 => .int
  | 16 => .int
  | 17 => .int
  | 18 => .int
  | 19 => .int
  | 20 => .boolean
  | 21 => .array .int
  | 22 => .int
  | 23 => .int
  | 24 => .array .int
  | 25 => .array .int
  | 26 => .array .int
  | 27 => .int
  | 28 => .array .int
  | 29 => .array .long
  | 30 => .array .int
  | 31 => .array .int
  | 32 => .int
  | 33 => .int
  | 34 => .array .int
  | 35 => .array .int
  | 36 => .array .int
  | 37 => .boolean
  | _ => .int
abbrev wsX120 : List Cond := u_ws RX12 TX12 39
theorem nmX12 : ∀ a, a < 39 → ∀ b, b < 39 → a ≠ b → (TX12 a).2.1 ≠ (TX12 b).2.1 := by decide +kernel
theorem tyX12_ok : ∀ k, k < 39 → parseFieldDescriptor (TX12 k).2.2.1 = some (tyX12 k) := by decide +kernel
abbrev cX12_init : ByteArray := prog_14_method_1_code
def yX12_init : MethodName := ⟨RX12, "<init>", "()V"⟩
abbrev cX12_plain : ByteArray := prog_14_method_2_code
def yX12_plain : MethodName := ⟨RX12, "plain", "(I)V"⟩
abbrev cX12_status : ByteArray := prog_14_method_3_code
def yX12_status : MethodName := ⟨RX12, "status", "()I"⟩
abbrev cX12_top : ByteArray := prog_14_method_4_code
def yX12_top : MethodName := ⟨RX12, "top", "()J"⟩
abbrev cX12_bottom : ByteArray := prog_14_method_5_code
def yX12_bottom : MethodName := ⟨RX12, "bottom", "()J"⟩
abbrev cX12_is : ByteArray := prog_14_method_6_code
def yX12_is : MethodName := ⟨RX12, "is", "(I)Z"⟩
abbrev cX12_refuse : ByteArray := prog_14_method_7_code
def yX12_refuse : MethodName := ⟨RX12, "refuse", "(I)I"⟩
abbrev cX12_gives : ByteArray := prog_14_method_8_code
def yX12_gives : MethodName := ⟨RX12, "gives", "(I)I"⟩
abbrev cX12_orNone : ByteArray := prog_14_method_9_code
def yX12_orNone : MethodName := ⟨RX12, "orNone", "(I)I"⟩
abbrev cX12_tellsBy : ByteArray := prog_14_method_10_code
def yX12_tellsBy : MethodName := ⟨RX12, "tellsBy", "(JJ)Z"⟩
abbrev cX12_isTray : ByteArray := prog_14_method_11_code
def yX12_isTray : MethodName := ⟨RX12, "isTray", "(I)Z"⟩
abbrev cX12_shrunk : ByteArray := prog_14_method_12_code
def yX12_shrunk : MethodName := ⟨RX12, "shrunk", "(JI)J"⟩
abbrev cX12_tray : ByteArray := prog_14_method_13_code
def yX12_tray : MethodName := ⟨RX12, "tray", "(III)Z"⟩
abbrev cX12_wrongPlace : ByteArray := prog_14_method_14_code
def yX12_wrongPlace : MethodName := ⟨RX12, "wrongPlace", "(II)I"⟩
abbrev cX12_write : ByteArray := prog_14_method_15_code
def yX12_write : MethodName := ⟨RX12, "write", "(IIJ)Z"⟩
abbrev cX12_read : ByteArray := prog_14_method_16_code
def yX12_read : MethodName := ⟨RX12, "read", "(II)J"⟩
abbrev cX12_pour : ByteArray := prog_14_method_17_code
def yX12_pour : MethodName := ⟨RX12, "pour", "(IIIII)Z"⟩
abbrev cX12_isFrom : ByteArray := prog_14_method_18_code
def yX12_isFrom : MethodName := ⟨RX12, "isFrom", "(JJJ)Z"⟩
abbrev cX12_feed : ByteArray := prog_14_method_19_code
def yX12_feed : MethodName := ⟨RX12, "feed", "(IIIII)I"⟩
abbrev cX12_four : ByteArray := prog_14_method_20_code
def yX12_four : MethodName := ⟨RX12, "four", "(I)V"⟩
abbrev cX12_byteAt : ByteArray := prog_14_method_21_code
def yX12_byteAt : MethodName := ⟨RX12, "byteAt", "(I)I"⟩
abbrev cX12_isSmall : ByteArray := prog_14_method_22_code
def yX12_isSmall : MethodName := ⟨RX12, "isSmall", "(I)Z"⟩
abbrev cX12_isDigit : ByteArray := prog_14_method_23_code
def yX12_isDigit : MethodName := ⟨RX12, "isDigit", "(I)Z"⟩
abbrev cX12_ahead : ByteArray := prog_14_method_24_code
def yX12_ahead : MethodName := ⟨RX12, "ahead", "()V"⟩
abbrev cX12_isSign : ByteArray := prog_14_method_25_code
def yX12_isSign : MethodName := ⟨RX12, "isSign", "(I)Z"⟩
abbrev cX12_inWords : ByteArray := prog_14_method_26_code
def yX12_inWords : MethodName := ⟨RX12, "inWords", "(Ljava/lang/String;)I"⟩
abbrev cX12_fails : ByteArray := prog_14_method_27_code
def yX12_fails : MethodName := ⟨RX12, "fails", "(I)Z"⟩
abbrev cX12_begins : ByteArray := prog_14_method_28_code
def yX12_begins : MethodName := ⟨RX12, "begins", "(II)Z"⟩
abbrev cX12_wantSign : ByteArray := prog_14_method_29_code
def yX12_wantSign : MethodName := ⟨RX12, "wantSign", "(I)Z"⟩
abbrev cX12_wantWord : ByteArray := prog_14_method_30_code
def yX12_wantWord : MethodName := ⟨RX12, "wantWord", "(Ljava/lang/String;I)Z"⟩
abbrev cX12_number : ByteArray := prog_14_method_31_code
def yX12_number : MethodName := ⟨RX12, "number", "(III)Z"⟩
abbrev cX12_isName : ByteArray := prog_14_method_32_code
def yX12_isName : MethodName := ⟨RX12, "isName", "(Ljava/lang/String;)Z"⟩
abbrev cX12_nameHere : ByteArray := prog_14_method_33_code
def yX12_nameHere : MethodName := ⟨RX12, "nameHere", "()J"⟩
abbrev cX12_findHere : ByteArray := prog_14_method_34_code
def yX12_findHere : MethodName := ⟨RX12, "findHere", "(II)I"⟩
abbrev cX12_fault : ByteArray := prog_14_method_35_code
def yX12_fault : MethodName := ⟨RX12, "fault", "(I)I"⟩
abbrev cX12_taken : ByteArray := prog_14_method_36_code
def yX12_taken : MethodName := ⟨RX12, "taken", "(I)I"⟩
abbrev cX12_isThere : ByteArray := prog_14_method_37_code
def yX12_isThere : MethodName := ⟨RX12, "isThere", "(I)Z"⟩
abbrev cX12_newOne : ByteArray := prog_14_method_38_code
def yX12_newOne : MethodName := ⟨RX12, "newOne", "(III)Z"⟩
abbrev cX12_oldOne : ByteArray := prog_14_method_39_code
def yX12_oldOne : MethodName := ⟨RX12, "oldOne", "(III)Z"⟩
abbrev cX12_newPlaceTo : ByteArray := prog_14_method_40_code
def yX12_newPlaceTo : MethodName := ⟨RX12, "newPlaceTo", "(I)Z"⟩
abbrev cX12_newBeastTo : ByteArray := prog_14_method_41_code
def yX12_newBeastTo : MethodName := ⟨RX12, "newBeastTo", "(I)Z"⟩
abbrev cX12_aTrain : ByteArray := prog_14_method_42_code
def yX12_aTrain : MethodName := ⟨RX12, "aTrain", "()Z"⟩
abbrev cX12_aBeast : ByteArray := prog_14_method_43_code
def yX12_aBeast : MethodName := ⟨RX12, "aBeast", "()Z"⟩
abbrev cX12_aHunt : ByteArray := prog_14_method_44_code
def yX12_aHunt : MethodName := ⟨RX12, "aHunt", "()Z"⟩
abbrev cX12_aTicket : ByteArray := prog_14_method_45_code
def yX12_aTicket : MethodName := ⟨RX12, "aTicket", "()Z"⟩
abbrev cX12_parkPart : ByteArray := prog_14_method_46_code
def yX12_parkPart : MethodName := ⟨RX12, "parkPart", "()Z"⟩
abbrev cX12_park : ByteArray := prog_14_method_47_code
def yX12_park : MethodName := ⟨RX12, "park", "(I)I"⟩
abbrev cX12_beastTo : ByteArray := prog_14_method_48_code
def yX12_beastTo : MethodName := ⟨RX12, "beastTo", "(I)Z"⟩
abbrev cX12_trainTo : ByteArray := prog_14_method_49_code
def yX12_trainTo : MethodName := ⟨RX12, "trainTo", "(I)Z"⟩
abbrev cX12_test : ByteArray := prog_14_method_50_code
def yX12_test : MethodName := ⟨RX12, "test", "(I)Z"⟩
abbrev cX12_weekOrder : ByteArray := prog_14_method_51_code
def yX12_weekOrder : MethodName := ⟨RX12, "weekOrder", "(II)Z"⟩
abbrev cX12_weekStep : ByteArray := prog_14_method_52_code
def yX12_weekStep : MethodName := ⟨RX12, "weekStep", "()Z"⟩
abbrev cX12_weeks : ByteArray := prog_14_method_53_code
def yX12_weeks : MethodName := ⟨RX12, "weeks", "(I)I"⟩
abbrev cX12_trainRow : ByteArray := prog_14_method_54_code
def yX12_trainRow : MethodName := ⟨RX12, "trainRow", "(I)I"⟩
abbrev cX12_beastRow : ByteArray := prog_14_method_55_code
def yX12_beastRow : MethodName := ⟨RX12, "beastRow", "(I)I"⟩
abbrev cX12_isPlace : ByteArray := prog_14_method_56_code
def yX12_isPlace : MethodName := ⟨RX12, "isPlace", "(I)Z"⟩
abbrev cX12_isTrain : ByteArray := prog_14_method_57_code
def yX12_isTrain : MethodName := ⟨RX12, "isTrain", "(I)Z"⟩
abbrev cX12_isBeast : ByteArray := prog_14_method_58_code
def yX12_isBeast : MethodName := ⟨RX12, "isBeast", "(I)Z"⟩
abbrev cX12_areTwo : ByteArray := prog_14_method_59_code
def yX12_areTwo : MethodName := ⟨RX12, "areTwo", "(II)Z"⟩
abbrev cX12_areBeasts : ByteArray := prog_14_method_60_code
def yX12_areBeasts : MethodName := ⟨RX12, "areBeasts", "(I)Z"⟩
abbrev cX12_isIn : ByteArray := prog_14_method_61_code
def yX12_isIn : MethodName := ⟨RX12, "isIn", "(II)Z"⟩
abbrev cX12_bits : ByteArray := prog_14_method_62_code
def yX12_bits : MethodName := ⟨RX12, "bits", "(I)I"⟩
abbrev cX12_beastOf : ByteArray := prog_14_method_63_code
def yX12_beastOf : MethodName := ⟨RX12, "beastOf", "(II)I"⟩
abbrev cX12_trainOf : ByteArray := prog_14_method_64_code
def yX12_trainOf : MethodName := ⟨RX12, "trainOf", "(II)I"⟩
abbrev cX12_isEaten : ByteArray := prog_14_method_65_code
def yX12_isEaten : MethodName := ⟨RX12, "isEaten", "(I)Z"⟩
abbrev cX12_whereOf : ByteArray := prog_14_method_66_code
def yX12_whereOf : MethodName := ⟨RX12, "whereOf", "(I)I"⟩
abbrev cX12_beastsWith : ByteArray := prog_14_method_67_code
def yX12_beastsWith : MethodName := ⟨RX12, "beastsWith", "(I)I"⟩
abbrev cX12_beastsAt : ByteArray := prog_14_method_68_code
def yX12_beastsAt : MethodName := ⟨RX12, "beastsAt", "(I)I"⟩
abbrev cX12_onTrains : ByteArray := prog_14_method_69_code
def yX12_onTrains : MethodName := ⟨RX12, "onTrains", "()I"⟩
abbrev cX12_halted : ByteArray := prog_14_method_70_code
def yX12_halted : MethodName := ⟨RX12, "halted", "()I"⟩
abbrev cX12_told : ByteArray := prog_14_method_71_code
def yX12_told : MethodName := ⟨RX12, "told", "(I)I"⟩
abbrev cX12_train : ByteArray := prog_14_method_72_code
def yX12_train : MethodName := ⟨RX12, "train", "(II)I"⟩
abbrev cX12_beast : ByteArray := prog_14_method_73_code
def yX12_beast : MethodName := ⟨RX12, "beast", "(II)I"⟩
abbrev cX12_at : ByteArray := prog_14_method_74_code
def yX12_at : MethodName := ⟨RX12, "at", "(I)I"⟩
abbrev cX12_there : ByteArray := prog_14_method_75_code
def yX12_there : MethodName := ⟨RX12, "there", "(I)I"⟩
abbrev cX12_areTogether : ByteArray := prog_14_method_76_code
def yX12_areTogether : MethodName := ⟨RX12, "areTogether", "(II)Z"⟩
abbrev cX12_together : ByteArray := prog_14_method_77_code
def yX12_together : MethodName := ⟨RX12, "together", "(II)I"⟩
abbrev cX12_getsOff : ByteArray := prog_14_method_78_code
def yX12_getsOff : MethodName := ⟨RX12, "getsOff", "(I)V"⟩
abbrev cX12_leaves : ByteArray := prog_14_method_79_code
def yX12_leaves : MethodName := ⟨RX12, "leaves", "(I)V"⟩
abbrev cX12_eaterOf : ByteArray := prog_14_method_80_code
def yX12_eaterOf : MethodName := ⟨RX12, "eaterOf", "(I)I"⟩
abbrev cX12_hourGoes : ByteArray := prog_14_method_81_code
def yX12_hourGoes : MethodName := ⟨RX12, "hourGoes", "()I"⟩
abbrev cX12_hoursGo : ByteArray := prog_14_method_82_code
def yX12_hoursGo : MethodName := ⟨RX12, "hoursGo", "(I)I"⟩
abbrev cX12_hour : ByteArray := prog_14_method_83_code
def yX12_hour : MethodName := ⟨RX12, "hour", "(I)I"⟩
abbrev cX12_lateNow : ByteArray := prog_14_method_84_code
def yX12_lateNow : MethodName := ⟨RX12, "lateNow", "()I"⟩
abbrev cX12_mondayComes : ByteArray := prog_14_method_85_code
def yX12_mondayComes : MethodName := ⟨RX12, "mondayComes", "()I"⟩
abbrev cX12_isMonday : ByteArray := prog_14_method_86_code
def yX12_isMonday : MethodName := ⟨RX12, "isMonday", "()Z"⟩
abbrev cX12_monday : ByteArray := prog_14_method_87_code
def yX12_monday : MethodName := ⟨RX12, "monday", "()I"⟩
abbrev cX12_ticket : ByteArray := prog_14_method_88_code
def yX12_ticket : MethodName := ⟨RX12, "ticket", "(IIZ)Z"⟩
abbrev cX12_let : ByteArray := prog_14_method_89_code
def yX12_let : MethodName := ⟨RX12, "let", "(IZ)Z"⟩
abbrev cX12_halt : ByteArray := prog_14_method_90_code
def yX12_halt : MethodName := ⟨RX12, "halt", "(IZ)Z"⟩
abbrev cX12_trust : ByteArray := prog_14_method_91_code
def yX12_trust : MethodName := ⟨RX12, "trust", "(II)Z"⟩
abbrev cX12_shift : ByteArray := prog_14_method_92_code
def yX12_shift : MethodName := ⟨RX12, "shift", "(II)Z"⟩
abbrev cX12_hunt : ByteArray := prog_14_method_93_code
def yX12_hunt : MethodName := ⟨RX12, "hunt", "(IIZ)Z"⟩
abbrev cX12_mourn : ByteArray := prog_14_method_94_code
def yX12_mourn : MethodName := ⟨RX12, "mourn", "(I)Z"⟩
abbrev cX12_rule : ByteArray := prog_14_method_95_code
def yX12_rule : MethodName := ⟨RX12, "rule", "(I)Z"⟩
abbrev cX12_keeps : ByteArray := prog_14_method_96_code
def yX12_keeps : MethodName := ⟨RX12, "keeps", "(I)V"⟩
abbrev cX12_restores : ByteArray := prog_14_method_97_code
def yX12_restores : MethodName := ⟨RX12, "restores", "(I)V"⟩
abbrev cX12_laysOn : ByteArray := prog_14_method_98_code
def yX12_laysOn : MethodName := ⟨RX12, "laysOn", "()I"⟩
abbrev cX12_laysWeek : ByteArray := prog_14_method_99_code
def yX12_laysWeek : MethodName := ⟨RX12, "laysWeek", "()V"⟩
abbrev cX12_where : ByteArray := prog_14_method_100_code
def yX12_where : MethodName := ⟨RX12, "where", "(II)I"⟩
abbrev cX12_eatenAt : ByteArray := prog_14_method_101_code
def yX12_eatenAt : MethodName := ⟨RX12, "eatenAt", "(I)I"⟩
abbrev cX12_eater : ByteArray := prog_14_method_102_code
def yX12_eater : MethodName := ⟨RX12, "eater", "(I)I"⟩
abbrev cX12_meet : ByteArray := prog_14_method_103_code
def yX12_meet : MethodName := ⟨RX12, "meet", "(II)I"⟩
abbrev cX12_lateBy : ByteArray := prog_14_method_104_code
def yX12_lateBy : MethodName := ⟨RX12, "lateBy", "()I"⟩
abbrev cX12_areAlive : ByteArray := prog_14_method_105_code
def yX12_areAlive : MethodName := ⟨RX12, "areAlive", "(I)Z"⟩
abbrev cX12_lettingOut : ByteArray := prog_14_method_106_code
def yX12_lettingOut : MethodName := ⟨RX12, "lettingOut", "(I)I"⟩
abbrev cX12_peace : ByteArray := prog_14_method_107_code
def yX12_peace : MethodName := ⟨RX12, "peace", "(I)I"⟩
abbrev cX12_eatenBy : ByteArray := prog_14_method_108_code
def yX12_eatenBy : MethodName := ⟨RX12, "eatenBy", "(I)I"⟩
abbrev cX12_most : ByteArray := prog_14_method_109_code
def yX12_most : MethodName := ⟨RX12, "most", "()I"⟩
abbrev cX12_going : ByteArray := prog_14_method_110_code
def yX12_going : MethodName := ⟨RX12, "going", "()I"⟩
abbrev cX12_laysSoon : ByteArray := prog_14_method_111_code
def yX12_laysSoon : MethodName := ⟨RX12, "laysSoon", "(III)V"⟩
abbrev cX12_isWay : ByteArray := prog_14_method_112_code
def yX12_isWay : MethodName := ⟨RX12, "isWay", "(III)Z"⟩
abbrev cX12_soonest : ByteArray := prog_14_method_113_code
def yX12_soonest : MethodName := ⟨RX12, "soonest", "(III)I"⟩
abbrev cX12_soonestBy : ByteArray := prog_14_method_114_code
def yX12_soonestBy : MethodName := ⟨RX12, "soonestBy", "(III)I"⟩
abbrev cX12_latestOf : ByteArray := prog_14_method_115_code
def yX12_latestOf : MethodName := ⟨RX12, "latestOf", "(III)I"⟩
abbrev cX12_latest : ByteArray := prog_14_method_116_code
def yX12_latest : MethodName := ⟨RX12, "latest", "(III)I"⟩
abbrev cX12_stay : ByteArray := prog_14_method_117_code
def yX12_stay : MethodName := ⟨RX12, "stay", "(I)I"⟩
abbrev cX12_reachBy : ByteArray := prog_14_method_118_code
def yX12_reachBy : MethodName := ⟨RX12, "reachBy", "(I)I"⟩
abbrev cX12_reach : ByteArray := prog_14_method_119_code
def yX12_reach : MethodName := ⟨RX12, "reach", "()I"⟩
abbrev cX12_cutting : ByteArray := prog_14_method_120_code
def yX12_cutting : MethodName := ⟨RX12, "cutting", "(I)I"⟩
abbrev cX12_cut : ByteArray := prog_14_method_121_code
def yX12_cut : MethodName := ⟨RX12, "cut", "(I)I"⟩
abbrev cX12_cutSet : ByteArray := prog_14_method_122_code
def yX12_cutSet : MethodName := ⟨RX12, "cutSet", "(I)I"⟩
abbrev cX12_snow : ByteArray := prog_14_method_123_code
def yX12_snow : MethodName := ⟨RX12, "snow", "(I)Z"⟩
abbrev cX12_back : ByteArray := prog_14_method_124_code
def yX12_back : MethodName := ⟨RX12, "back", "(II)Z"⟩
abbrev cX12_wildest : ByteArray := prog_14_method_125_code
def yX12_wildest : MethodName := ⟨RX12, "wildest", "(I)I"⟩
abbrev cX12_isRoom : ByteArray := prog_14_method_126_code
def yX12_isRoom : MethodName := ⟨RX12, "isRoom", "(II)Z"⟩
abbrev cX12_roomsOf : ByteArray := prog_14_method_127_code
def yX12_roomsOf : MethodName := ⟨RX12, "roomsOf", "(II)I"⟩
abbrev cX12_rooms : ByteArray := prog_14_method_128_code
def yX12_rooms : MethodName := ⟨RX12, "rooms", "(II)I"⟩
abbrev cX12_roomSize : ByteArray := prog_14_method_129_code
def yX12_roomSize : MethodName := ⟨RX12, "roomSize", "(II)I"⟩
abbrev cX12_wrongParrot : ByteArray := prog_14_method_130_code
def yX12_wrongParrot : MethodName := ⟨RX12, "wrongParrot", "(III)I"⟩
abbrev cX12_laysSlips : ByteArray := prog_14_method_131_code
def yX12_laysSlips : MethodName := ⟨RX12, "laysSlips", "(II)V"⟩
abbrev cX12_sets : ByteArray := prog_14_method_132_code
def yX12_sets : MethodName := ⟨RX12, "sets", "(III)I"⟩
abbrev cX12_sure : ByteArray := prog_14_method_133_code
def yX12_sure : MethodName := ⟨RX12, "sure", "(III)I"⟩
abbrev cX12_slips : ByteArray := prog_14_method_134_code
def yX12_slips : MethodName := ⟨RX12, "slips", "(II)I"⟩
abbrev cX12_copyPlaces : ByteArray := prog_14_method_135_code
def yX12_copyPlaces : MethodName := ⟨RX12, "copyPlaces", "(I)I"⟩
abbrev cX12_draw : ByteArray := prog_14_method_136_code
def yX12_draw : MethodName := ⟨RX12, "draw", "(I)I"⟩
abbrev cX12_hoursBy : ByteArray := prog_14_method_137_code
def yX12_hoursBy : MethodName := ⟨RX12, "hoursBy", "(I)Z"⟩
abbrev cX12_mondayBy : ByteArray := prog_14_method_138_code
def yX12_mondayBy : MethodName := ⟨RX12, "mondayBy", "()Z"⟩
abbrev cX12_turnsBy : ByteArray := prog_14_method_139_code
def yX12_turnsBy : MethodName := ⟨RX12, "turnsBy", "(III)Z"⟩
abbrev cX12_haltsBy : ByteArray := prog_14_method_140_code
def yX12_haltsBy : MethodName := ⟨RX12, "haltsBy", "(I)Z"⟩
abbrev cX12_snowsAny : ByteArray := prog_14_method_141_code
def yX12_snowsAny : MethodName := ⟨RX12, "snowsAny", "()Z"⟩
abbrev cX12_does : ByteArray := prog_14_method_142_code
def yX12_does : MethodName := ⟨RX12, "does", "(I)Z"⟩
abbrev cX12_holds : ByteArray := prog_14_method_143_code
def yX12_holds : MethodName := ⟨RX12, "holds", "(I)Z"⟩
abbrev cX12_behindEnds : ByteArray := prog_14_method_144_code
def yX12_behindEnds : MethodName := ⟨RX12, "behindEnds", "(I)I"⟩
abbrev cX12_lives : ByteArray := prog_14_method_145_code
def yX12_lives : MethodName := ⟨RX12, "lives", "(I)V"⟩
abbrev cX12_live : ByteArray := prog_14_method_146_code
def yX12_live : MethodName := ⟨RX12, "live", "(I)I"⟩
abbrev cX12_lived : ByteArray := prog_14_method_147_code
def yX12_lived : MethodName := ⟨RX12, "lived", "(I)I"⟩
abbrev cX12_mean : ByteArray := prog_14_method_148_code
def yX12_mean : MethodName := ⟨RX12, "mean", "(II)Z"⟩
abbrev cX12_copies : ByteArray := prog_14_method_149_code
def yX12_copies : MethodName := ⟨RX12, "copies", "(II)V"⟩
abbrev cX12_mark : ByteArray := prog_14_method_150_code
def yX12_mark : MethodName := ⟨RX12, "mark", "()I"⟩
abbrev cX12_undo : ByteArray := prog_14_method_151_code
def yX12_undo : MethodName := ⟨RX12, "undo", "()I"⟩
def RJ6 : String := "java/lang/Integer"
def TJ6 : u_T := fun k => match k with
  | _ => ("", "", "", false)
def tyJ6 : Nat → FieldType := fun k => match k with
  | _ => .int
abbrev wsJ60 : List Cond := u_ws RJ6 TJ6 0
theorem nmJ6 : ∀ a, a < 0 → ∀ b, b < 0 → a ≠ b → (TJ6 a).2.1 ≠ (TJ6 b).2.1 := by decide +kernel
theorem tyJ6_ok : ∀ k, k < 0 → parseFieldDescriptor (TJ6 k).2.2.1 = some (tyJ6 k) := by decide +kernel
abbrev cJ6_bitCount_0f7a4 : ByteArray := prog_15_method_49_code
def yJ6_bitCount_0f7a4 : MethodName := ⟨RJ6, "bitCount", "(I)I"⟩
def RJ9 : String := "java/lang/Math"
def TJ9 : u_T := fun k => match k with
  | _ => ("", "", "", false)
def tyJ9 : Nat → FieldType := fun k => match k with
  | _ => .int
abbrev wsJ90 : List Cond := u_ws RJ9 TJ9 0
theorem nmJ9 : ∀ a, a < 0 → ∀ b, b < 0 → a ≠ b → (TJ9 a).2.1 ≠ (TJ9 b).2.1 := by decide +kernel
theorem tyJ9_ok : ∀ k, k < 0 → parseFieldDescriptor (TJ9 k).2.2.1 = some (tyJ9 k) := by decide +kernel
abbrev cJ9_min_7cf53 : ByteArray := prog_16_method_69_code
def yJ9_min_7cf53 : MethodName := ⟨RJ9, "min", "(II)I"⟩
def RJ0 : String := "java/lang/String"
def TJ0 : u_T := fun k => match k with
  | _ => ("", "", "", false)
def tyJ0 : Nat → FieldType := fun k => match k with
  | _ => .int
abbrev wsJ00 : List Cond := u_ws RJ0 TJ0 0
theorem nmJ0 : ∀ a, a < 0 → ∀ b, b < 0 → a ≠ b → (TJ0 a).2.1 ≠ (TJ0 b).2.1 := by decide +kernel
theorem tyJ0_ok : ∀ k, k < 0 → parseFieldDescriptor (TJ0 k).2.2.1 = some (tyJ0 k) := by decide +kernel
abbrev cJ0_length_8abf5 : ByteArray := prog_17_method_54_code
def yJ0_length_8abf5 : MethodName := ⟨RJ0, "length", "()I"⟩
abbrev cJ0_charAt_5068e : ByteArray := prog_17_method_56_code
def yJ0_charAt_5068e : MethodName := ⟨RJ0, "charAt", "(I)C"⟩
abbrev cJ0_coder_7d493 : ByteArray := prog_17_method_152_code
def yJ0_coder_7d493 : MethodName := ⟨RJ0, "coder", "()B"⟩
abbrev cJ0_isLatin1_aae02 : ByteArray := prog_17_method_154_code
def yJ0_isLatin1_aae02 : MethodName := ⟨RJ0, "isLatin1", "()Z"⟩
abbrev cJ0_checkIndex_df160 : ByteArray := prog_17_method_155_code
def yJ0_checkIndex_df160 : MethodName := ⟨RJ0, "checkIndex", "(II)V"⟩
def RJ1 : String := "java/lang/StringLatin1"
def TJ1 : u_T := fun k => match k with
  | _ => ("", "", "", false)
def tyJ1 : Nat → FieldType := fun k => match k with
  | _ => .int
abbrev wsJ10 : List Cond := u_ws RJ1 TJ1 0
theorem nmJ1 : ∀ a, a < 0 → ∀ b, b < 0 → a ≠ b → (TJ1 a).2.1 ≠ (TJ1 b).2.1 := by decide +kernel
theorem tyJ1_ok : ∀ k, k < 0 → parseFieldDescriptor (TJ1 k).2.2.1 = some (tyJ1 k) := by decide +kernel
abbrev cJ1_charAt_3b067 : ByteArray := prog_18_method_2_code
def yJ1_charAt_3b067 : MethodName := ⟨RJ1, "charAt", "([BI)C"⟩
def RJ2 : String := "java/lang/StringUTF16"
def TJ2 : u_T := fun k => match k with
  | _ => ("", "", "", false)
def tyJ2 : Nat → FieldType := fun k => match k with
  | _ => .int
abbrev wsJ20 : List Cond := u_ws RJ2 TJ2 0
theorem nmJ2 : ∀ a, a < 0 → ∀ b, b < 0 → a ≠ b → (TJ2 a).2.1 ≠ (TJ2 b).2.1 := by decide +kernel
theorem tyJ2_ok : ∀ k, k < 0 → parseFieldDescriptor (TJ2 k).2.2.1 = some (tyJ2 k) := by decide +kernel
abbrev cJ2_getChar_3b067 : ByteArray := prog_19_method_5_code
def yJ2_getChar_3b067 : MethodName := ⟨RJ2, "getChar", "([BI)C"⟩
abbrev cJ2_length_9d52b : ByteArray := prog_19_method_6_code
def yJ2_length_9d52b : MethodName := ⟨RJ2, "length", "([B)I"⟩
abbrev cJ2_charAt_3b067 : ByteArray := prog_19_method_83_code
def yJ2_charAt_3b067 : MethodName := ⟨RJ2, "charAt", "([BI)C"⟩
abbrev cJ2_checkIndex_2214a : ByteArray := prog_19_method_91_code
def yJ2_checkIndex_2214a : MethodName := ⟨RJ2, "checkIndex", "(I[B)V"⟩
def RJ10 : String := "java/lang/System"
def TJ10 : u_T := fun k => match k with
  | _ => ("", "", "", false)
def tyJ10 : Nat → FieldType := fun k => match k with
  | _ => .int
abbrev wsJ100 : List Cond := u_ws RJ10 TJ10 0
theorem nmJ10 : ∀ a, a < 0 → ∀ b, b < 0 → a ≠ b → (TJ10 a).2.1 ≠ (TJ10 b).2.1 := by decide +kernel
theorem tyJ10_ok : ∀ k, k < 0 → parseFieldDescriptor (TJ10 k).2.2.1 = some (tyJ10 k) := by decide +kernel
def RJ3 : String := "jdk/internal/util/Preconditions"
def TJ3 : u_T := fun k => match k with
  | _ => ("", "", "", false)
def tyJ3 : Nat → FieldType := fun k => match k with
  | _ => .int
abbrev wsJ30 : List Cond := u_ws RJ3 TJ3 0
theorem nmJ3 : ∀ a, a < 0 → ∀ b, b < 0 → a ≠ b → (TJ3 a).2.1 ≠ (TJ3 b).2.1 := by decide +kernel
theorem tyJ3_ok : ∀ k, k < 0 → parseFieldDescriptor (TJ3 k).2.2.1 = some (tyJ3 k) := by decide +kernel
abbrev cJ3_checkIndex_8e157 : ByteArray := prog_21_method_11_code
def yJ3_checkIndex_8e157 : MethodName := ⟨RJ3, "checkIndex", "(IILjava/util/function/BiFunction;)I"⟩
def RL : String := "CageLeaveLaw"
abbrev cL_law : ByteArray := code
def yL_law : MethodName := ⟨RL, "law", "([I)Z"⟩
abbrev vwCl : List vw_C := [(RX0, TX0, 5), (RX1, TX1, 12), (RX2, TX2, 4), (RX3, TX3, 4), (RX4, TX4, 16), (RX5, TX5, 2), (RX6, TX6, 11), (RX7, TX7, 3), (RX8, TX8, 2), (RX9, TX9, 7), (RX10, TX10, 4), (RX11, TX11, 20), (RX12, TX12, 39)]
theorem ixX0 : u_ws RX0 TX0 5 = ([596, 598, 600, 602, 604] : List Nat).filterMap (fun i => lw_tbl[i]?) := by decide +kernel
theorem inX0 : ∀ w ∈ wsX00, w ∈ lw_tbl := fun w h => by
  have h1 : w ∈ u_ws RX0 TX0 5 := h
  rw [ixX0] at h1
  obtain ⟨i, -, hi⟩ := List.mem_filterMap.mp h1
  exact List.mem_of_getElem? hi
theorem ixX1 : u_ws RX1 TX1 12 = ([429, 431, 433, 435, 437, 439, 441, 443, 445, 447, 449, 451] : List Nat).filterMap (fun i => lw_tbl[i]?) := by decide +kernel
theorem inX1 : ∀ w ∈ wsX10, w ∈ lw_tbl := fun w h => by
  have h1 : w ∈ u_ws RX1 TX1 12 := h
  rw [ixX1] at h1
  obtain ⟨i, -, hi⟩ := List.mem_filterMap.mp h1
  exact List.mem_of_getElem? hi
theorem ixX2 : u_ws RX2 TX2 4 = ([460, 462, 464, 466] : List Nat).filterMap (fun i => lw_tbl[i]?) := by decide +kernel
theorem inX2 : ∀ w ∈ wsX20, w ∈ lw_tbl := fun w h => by
  have h1 : w ∈ u_ws RX2 TX2 4 := h
  rw [ixX2] at h1
  obtain ⟨i, -, hi⟩ := List.mem_filterMap.mp h1
  exact List.mem_of_getElem? hi
theorem ixX3 : u_ws RX3 TX3 4 = ([574, 576, 578, 580] : List Nat).filterMap (fun i => lw_tbl[i]?) := by decide +kernel
theorem inX3 : ∀ w ∈ wsX30, w ∈ lw_tbl := fun w h => by
  have h1 : w ∈ u_ws RX3 TX3 4 := h
  rw [ixX3] at h1
  obtain ⟨i, -, hi⟩ := List.mem_filterMap.mp h1
  exact List.mem_of_getElem? hi
theorem ixX4 : u_ws RX4 TX4 16 = ([361, 363, 365, 367, 369, 371, 373, 375, 377, 379, 381, 383, 385, 387, 389, 391] : List Nat).filterMap (fun i => lw_tbl[i]?) := by decide +kernel
theorem inX4 : ∀ w ∈ wsX40, w ∈ lw_tbl := fun w h => by
  have h1 : w ∈ u_ws RX4 TX4 16 := h
  rw [ixX4] at h1
  obtain ⟨i, -, hi⟩ := List.mem_filterMap.mp h1
  exact List.mem_of_getElem? hi
theorem ixX5 : u_ws RX5 TX5 2 = ([559, 561] : List Nat).filterMap (fun i => lw_tbl[i]?) := by decide +kernel
theorem inX5 : ∀ w ∈ wsX50, w ∈ lw_tbl := fun w h => by
  have h1 : w ∈ u_ws RX5 TX5 2 := h
  rw [ixX5] at h1
  obtain ⟨i, -, hi⟩ := List.mem_filterMap.mp h1
  exact List.mem_of_getElem? hi
theorem ixX6 : u_ws RX6 TX6 11 = ([265, 267, 269, 271, 273, 275, 277, 279, 281, 283, 285] : List Nat).filterMap (fun i => lw_tbl[i]?) := by decide +kernel
theorem inX6 : ∀ w ∈ wsX60, w ∈ lw_tbl := fun w h => by
  have h1 : w ∈ u_ws RX6 TX6 11 := h
  rw [ixX6] at h1
  obtain ⟨i, -, hi⟩ := List.mem_filterMap.mp h1
  exact List.mem_of_getElem? hi
theorem ixX7 : u_ws RX7 TX7 3 = ([176, 178, 180] : List Nat).filterMap (fun i => lw_tbl[i]?) := by decide +kernel
theorem inX7 : ∀ w ∈ wsX70, w ∈ lw_tbl := fun w h => by
  have h1 : w ∈ u_ws RX7 TX7 3 := h
  rw [ixX7] at h1
  obtain ⟨i, -, hi⟩ := List.mem_filterMap.mp h1
  exact List.mem_of_getElem? hi
theorem ixX8 : u_ws RX8 TX8 2 = ([546, 548] : List Nat).filterMap (fun i => lw_tbl[i]?) := by decide +kernel
theorem inX8 : ∀ w ∈ wsX80, w ∈ lw_tbl := fun w h => by
  have h1 : w ∈ u_ws RX8 TX8 2 := h
  rw [ixX8] at h1
  obtain ⟨i, -, hi⟩ := List.mem_filterMap.mp h1
  exact List.mem_of_getElem? hi
theorem ixX9 : u_ws RX9 TX9 7 = ([499, 501, 503, 505, 507, 509, 511] : List Nat).filterMap (fun i => lw_tbl[i]?) := by decide +kernel
theorem inX9 : ∀ w ∈ wsX90, w ∈ lw_tbl := fun w h => by
  have h1 : w ∈ u_ws RX9 TX9 7 := h
  rw [ixX9] at h1
  obtain ⟨i, -, hi⟩ := List.mem_filterMap.mp h1
  exact List.mem_of_getElem? hi
theorem ixX10 : u_ws RX10 TX10 4 = ([519, 521, 523, 525] : List Nat).filterMap (fun i => lw_tbl[i]?) := by decide +kernel
theorem inX10 : ∀ w ∈ wsX100, w ∈ lw_tbl := fun w h => by
  have h1 : w ∈ u_ws RX10 TX10 4 := h
  rw [ixX10] at h1
  obtain ⟨i, -, hi⟩ := List.mem_filterMap.mp h1
  exact List.mem_of_getElem? hi
theorem ixX11 : u_ws RX11 TX11 20 = ([627, 629, 631, 633, 635, 637, 639, 641, 643, 645, 647, 649, 651, 653, 655, 657, 659, 661, 663, 665] : List Nat).filterMap (fun i => lw_tbl[i]?) := by decide +kernel
theorem inX11 : ∀ w ∈ wsX110, w ∈ lw_tbl := fun w h => by
  have h1 : w ∈ u_ws RX11 TX11 20 := h
  rw [ixX11] at h1
  obtain ⟨i, -, hi⟩ := List.mem_filterMap.mp h1
  exact List.mem_of_getElem? hi
theorem ixX12 : u_ws RX12 TX12 39 = ([1415, 1417, 1419, 1421, 1423, 1425, 1427, 1429, 1431, 1433, 1435, 1437, 1439, 1441, 1443, 1445, 1447, 1449, 1451, 1453, 1455, 1457, 1459, 1461, 1463, 1465, 1467, 1469, 1471, 1473, 1475, 1477, 1479, 1481, 1483, 1485, 1487, 1489, 1491] : List Nat).filterMap (fun i => lw_tbl[i]?) := by decide +kernel
theorem inX12 : ∀ w ∈ wsX120, w ∈ lw_tbl := fun w h => by
  have h1 : w ∈ u_ws RX12 TX12 39 := h
  rw [ixX12] at h1
  obtain ⟨i, -, hi⟩ := List.mem_filterMap.mp h1
  exact List.mem_of_getElem? hi
