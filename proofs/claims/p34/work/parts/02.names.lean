def RX0 : String := "RegattaTimes$Committee"
def TX0 : u_T := fun k => match k with
  | _ => ("RegattaTimes$Committee", "state", "LRegattaTimes$State;", true)
def tyX0 : Nat → FieldType := fun k => match k with
  | _ => .object "RegattaTimes$State"
abbrev wsX00 : List Cond := u_ws RX0 TX0 1
theorem nmX0 : ∀ a, a < 1 → ∀ b, b < 1 → a ≠ b → (TX0 a).2.1 ≠ (TX0 b).2.1 := by decide +kernel
theorem tyX0_ok : ∀ k, k < 1 → parseFieldDescriptor (TX0 k).2.2.1 = some (tyX0 k) := by decide +kernel
abbrev cX0_init : ByteArray := prog_2_method_1_code
def yX0_init : MethodName := ⟨RX0, "<init>", "(LRegattaTimes$State;)V"⟩
abbrev cX0_enterBoat : ByteArray := prog_2_method_2_code
def yX0_enterBoat : MethodName := ⟨RX0, "enterBoat", "(I)I"⟩
abbrev cX0_prepareRace : ByteArray := prog_2_method_3_code
def yX0_prepareRace : MethodName := ⟨RX0, "prepareRace", "(III)I"⟩
abbrev cX0_startAnew : ByteArray := prog_2_method_4_code
def yX0_startAnew : MethodName := ⟨RX0, "startAnew", "(I)V"⟩
abbrev cX0_postponeStart : ByteArray := prog_2_method_5_code
def yX0_postponeStart : MethodName := ⟨RX0, "postponeStart", "(I)I"⟩
abbrev cX0_recallBoats : ByteArray := prog_2_method_6_code
def yX0_recallBoats : MethodName := ⟨RX0, "recallBoats", "()I"⟩
abbrev cX0_passTime : ByteArray := prog_2_method_7_code
def yX0_passTime : MethodName := ⟨RX0, "passTime", "(I)I"⟩
abbrev cX0_crossLine : ByteArray := prog_2_method_8_code
def yX0_crossLine : MethodName := ⟨RX0, "crossLine", "(I)I"⟩
abbrev cX0_kindAfterLine : ByteArray := prog_2_method_9_code
def yX0_kindAfterLine : MethodName := ⟨RX0, "kindAfterLine", "(I)I"⟩
abbrev cX0_hasAllRoundings : ByteArray := prog_2_method_10_code
def yX0_hasAllRoundings : MethodName := ⟨RX0, "hasAllRoundings", "(I)Z"⟩
abbrev cX0_passBuoy : ByteArray := prog_2_method_11_code
def yX0_passBuoy : MethodName := ⟨RX0, "passBuoy", "(II)I"⟩
abbrev cX0_retireBoat : ByteArray := prog_2_method_12_code
def yX0_retireBoat : MethodName := ⟨RX0, "retireBoat", "(I)I"⟩
abbrev cX0_closeRace : ByteArray := prog_2_method_13_code
def yX0_closeRace : MethodName := ⟨RX0, "closeRace", "()I"⟩
abbrev cX0_changeSetting : ByteArray := prog_2_method_14_code
def yX0_changeSetting : MethodName := ⟨RX0, "changeSetting", "(II)I"⟩
def RX1 : String := "RegattaTimes$History"
def TX1 : u_T := fun k => match k with
  | 0 => ("RegattaTimes$History", "slots", "[LRegattaTimes$State;", true)
  | 1 => ("RegattaTimes$History", "held", "I", false)
  | _ => ("RegattaTimes$History", "size", "I", false)
def tyX1 : Nat → FieldType := fun k => match k with
  | 0 => .array (.object "RegattaTimes$State")
  | 1 => .int
  | _ => .int
abbrev wsX10 : List Cond := u_ws RX1 TX1 3
theorem nmX1 : ∀ a, a < 3 → ∀ b, b < 3 → a ≠ b → (TX1 a).2.1 ≠ (TX1 b).2.1 := by decide +kernel
theorem tyX1_ok : ∀ k, k < 3 → parseFieldDescriptor (TX1 k).2.2.1 = some (tyX1 k) := by decide +kernel
abbrev cX1_init : ByteArray := prog_3_method_1_code
def yX1_init : MethodName := ⟨RX1, "<init>", "()V"⟩
abbrev cX1_size : ByteArray := prog_3_method_2_code
def yX1_size : MethodName := ⟨RX1, "size", "()I"⟩
abbrev cX1_hold : ByteArray := prog_3_method_3_code
def yX1_hold : MethodName := ⟨RX1, "hold", "(LRegattaTimes$State;)V"⟩
abbrev cX1_slot : ByteArray := prog_3_method_4_code
def yX1_slot : MethodName := ⟨RX1, "slot", "(I)LRegattaTimes$State;"⟩
abbrev cX1_confirm : ByteArray := prog_3_method_5_code
def yX1_confirm : MethodName := ⟨RX1, "confirm", "(I)I"⟩
def RX2 : String := "RegattaTimes$Jury"
def TX2 : u_T := fun k => match k with
  | _ => ("RegattaTimes$Jury", "state", "LRegattaTimes$State;", true)
def tyX2 : Nat → FieldType := fun k => match k with
  | _ => .object "RegattaTimes$State"
abbrev wsX20 : List Cond := u_ws RX2 TX2 1
theorem nmX2 : ∀ a, a < 1 → ∀ b, b < 1 → a ≠ b → (TX2 a).2.1 ≠ (TX2 b).2.1 := by decide +kernel
theorem tyX2_ok : ∀ k, k < 1 → parseFieldDescriptor (TX2 k).2.2.1 = some (tyX2 k) := by decide +kernel
abbrev cX2_init : ByteArray := prog_4_method_1_code
def yX2_init : MethodName := ⟨RX2, "<init>", "(LRegattaTimes$State;)V"⟩
abbrev cX2_hailProtest : ByteArray := prog_4_method_2_code
def yX2_hailProtest : MethodName := ⟨RX2, "hailProtest", "(II)I"⟩
abbrev cX2_isOnCourse : ByteArray := prog_4_method_3_code
def yX2_isOnCourse : MethodName := ⟨RX2, "isOnCourse", "(I)Z"⟩
abbrev cX2_fileProtest : ByteArray := prog_4_method_4_code
def yX2_fileProtest : MethodName := ⟨RX2, "fileProtest", "(I)I"⟩
abbrev cX2_acceptProtest : ByteArray := prog_4_method_5_code
def yX2_acceptProtest : MethodName := ⟨RX2, "acceptProtest", "(I)I"⟩
abbrev cX2_decideProtest : ByteArray := prog_4_method_6_code
def yX2_decideProtest : MethodName := ⟨RX2, "decideProtest", "(IZ)I"⟩
def RX3 : String := "RegattaTimes$Log"
def TX3 : u_T := fun k => match k with
  | _ => ("RegattaTimes$Log", "text", "Ljava/lang/StringBuilder;", true)
def tyX3 : Nat → FieldType := fun k => match k with
  | _ => .object "java/lang/StringBuilder"
abbrev wsX30 : List Cond := u_ws RX3 TX3 1
theorem nmX3 : ∀ a, a < 1 → ∀ b, b < 1 → a ≠ b → (TX3 a).2.1 ≠ (TX3 b).2.1 := by decide +kernel
theorem tyX3_ok : ∀ k, k < 1 → parseFieldDescriptor (TX3 k).2.2.1 = some (tyX3 k) := by decide +kernel
abbrev cX3_init : ByteArray := prog_5_method_1_code
def yX3_init : MethodName := ⟨RX3, "<init>", "()V"⟩
abbrev cX3_length : ByteArray := prog_5_method_4_code
def yX3_length : MethodName := ⟨RX3, "length", "()I"⟩
def RX4 : String := "RegattaTimes$Scores"
def TX4 : u_T := fun k => match k with
  | 0 => ("RegattaTimes$Scores", "state", "LRegattaTimes$State;", true)
  | 1 => ("RegattaTimes$Scores", "times", "LRegattaTimes$Table;", true)
  | 2 => ("RegattaTimes$Scores", "points", "LRegattaTimes$Table;", true)
  | 3 => ("RegattaTimes$Scores", "sums", "LRegattaTimes$Table;", true)
  | _ => ("RegattaTimes$Scores", "tallies", "LRegattaTimes$Table;", true)
def tyX4 : Nat → FieldType := fun k => match k with
  | 0 => .object "RegattaTimes$State"
  | 1 => .object "RegattaTimes$Table"
  | 2 => .object "RegattaTimes$Table"
  | 3 => .object "RegattaTimes$Table"
  | _ => .object "RegattaTimes$Table"
abbrev wsX40 : List Cond := u_ws RX4 TX4 5
theorem nmX4 : ∀ a, a < 5 → ∀ b, b < 5 → a ≠ b → (TX4 a).2.1 ≠ (TX4 b).2.1 := by decide +kernel
theorem tyX4_ok : ∀ k, k < 5 → parseFieldDescriptor (TX4 k).2.2.1 = some (tyX4 k) := by decide +kernel
abbrev cX4_init : ByteArray := prog_6_method_1_code
def yX4_init : MethodName := ⟨RX4, "<init>", "(LRegattaTimes$State;)V"⟩
abbrev cX4_readTimes : ByteArray := prog_6_method_2_code
def yX4_readTimes : MethodName := ⟨RX4, "readTimes", "(I)V"⟩
abbrev cX4_place : ByteArray := prog_6_method_3_code
def yX4_place : MethodName := ⟨RX4, "place", "(I)I"⟩
abbrev cX4_pointsFor : ByteArray := prog_6_method_4_code
def yX4_pointsFor : MethodName := ⟨RX4, "pointsFor", "(III)I"⟩
abbrev cX4_placeIn : ByteArray := prog_6_method_5_code
def yX4_placeIn : MethodName := ⟨RX4, "placeIn", "(II)I"⟩
abbrev cX4_pointsIn : ByteArray := prog_6_method_6_code
def yX4_pointsIn : MethodName := ⟨RX4, "pointsIn", "(II)I"⟩
abbrev cX4_leader : ByteArray := prog_6_method_7_code
def yX4_leader : MethodName := ⟨RX4, "leader", "(I)I"⟩
abbrev cX4_secondsToLead : ByteArray := prog_6_method_8_code
def yX4_secondsToLead : MethodName := ⟨RX4, "secondsToLead", "(I)I"⟩
abbrev cX4_recount : ByteArray := prog_6_method_9_code
def yX4_recount : MethodName := ⟨RX4, "recount", "()V"⟩
abbrev cX4_recountRace : ByteArray := prog_6_method_10_code
def yX4_recountRace : MethodName := ⟨RX4, "recountRace", "(I)V"⟩
abbrev cX4_sumUp : ByteArray := prog_6_method_11_code
def yX4_sumUp : MethodName := ⟨RX4, "sumUp", "(I)V"⟩
abbrev cX4_isDropping : ByteArray := prog_6_method_12_code
def yX4_isDropping : MethodName := ⟨RX4, "isDropping", "()Z"⟩
abbrev cX4_sum : ByteArray := prog_6_method_13_code
def yX4_sum : MethodName := ⟨RX4, "sum", "(I)I"⟩
abbrev cX4_total : ByteArray := prog_6_method_14_code
def yX4_total : MethodName := ⟨RX4, "total", "(I)I"⟩
abbrev cX4_dropped : ByteArray := prog_6_method_15_code
def yX4_dropped : MethodName := ⟨RX4, "dropped", "(I)I"⟩
abbrev cX4_firstPlaces : ByteArray := prog_6_method_16_code
def yX4_firstPlaces : MethodName := ⟨RX4, "firstPlaces", "(I)I"⟩
abbrev cX4_rank : ByteArray := prog_6_method_17_code
def yX4_rank : MethodName := ⟨RX4, "rank", "(I)I"⟩
abbrev cX4_isAhead : ByteArray := prog_6_method_18_code
def yX4_isAhead : MethodName := ⟨RX4, "isAhead", "(II)Z"⟩
def RX5 : String := "RegattaTimes$State"
def TX5 : u_T := fun k => match k with
  | 0 => ("RegattaTimes$State", "clock", "I", false)
  | 1 => ("RegattaTimes$State", "boats", "I", false)
  | 2 => ("RegattaTimes$State", "races", "I", false)
  | 3 => ("RegattaTimes$State", "latest", "I", false)
  | 4 => ("RegattaTimes$State", "protests", "I", false)
  | 5 => ("RegattaTimes$State", "ratings", "LRegattaTimes$Table;", true)
  | 6 => ("RegattaTimes$State", "settings", "LRegattaTimes$Table;", true)
  | 7 => ("RegattaTimes$State", "courses", "LRegattaTimes$Table;", true)
  | 8 => ("RegattaTimes$State", "entries", "LRegattaTimes$Table;", true)
  | _ => ("RegattaTimes$State", "cases", "LRegattaTimes$Table;", true)
def tyX5 : Nat → FieldType := fun k => match k with
  | 0 => .int
  | 1 => .int
  | 2 => .int
  | 3 => .int
  | 4 => .int
  | 5 => .object "RegattaTimes$Table"
  | 6 => .object "RegattaTimes$Table"
  | 7 => .object "RegattaTimes$Table"
  | 8 => .object "RegattaTimes$Table"
  | _ => .object "RegattaTimes$Table"
abbrev wsX50 : List Cond := u_ws RX5 TX5 10
theorem nmX5 : ∀ a, a < 10 → ∀ b, b < 10 → a ≠ b → (TX5 a).2.1 ≠ (TX5 b).2.1 := by decide +kernel
theorem tyX5_ok : ∀ k, k < 10 → parseFieldDescriptor (TX5 k).2.2.1 = some (tyX5 k) := by decide +kernel
abbrev cX5_init : ByteArray := prog_7_method_1_code
def yX5_init : MethodName := ⟨RX5, "<init>", "()V"⟩
abbrev cX5_copyFrom : ByteArray := prog_7_method_2_code
def yX5_copyFrom : MethodName := ⟨RX5, "copyFrom", "(LRegattaTimes$State;)V"⟩
abbrev cX5_hasBoat : ByteArray := prog_7_method_3_code
def yX5_hasBoat : MethodName := ⟨RX5, "hasBoat", "(I)Z"⟩
abbrev cX5_hasRace : ByteArray := prog_7_method_4_code
def yX5_hasRace : MethodName := ⟨RX5, "hasRace", "(I)Z"⟩
abbrev cX5_hasProtest : ByteArray := prog_7_method_5_code
def yX5_hasProtest : MethodName := ⟨RX5, "hasProtest", "(I)Z"⟩
abbrev cX5_isPrepared : ByteArray := prog_7_method_6_code
def yX5_isPrepared : MethodName := ⟨RX5, "isPrepared", "()Z"⟩
abbrev cX5_closedRaces : ByteArray := prog_7_method_7_code
def yX5_closedRaces : MethodName := ⟨RX5, "closedRaces", "()I"⟩
abbrev cX5_isClosed : ByteArray := prog_7_method_8_code
def yX5_isClosed : MethodName := ⟨RX5, "isClosed", "(I)Z"⟩
abbrev cX5_latestRace : ByteArray := prog_7_method_9_code
def yX5_latestRace : MethodName := ⟨RX5, "latestRace", "()I"⟩
abbrev cX5_start : ByteArray := prog_7_method_10_code
def yX5_start : MethodName := ⟨RX5, "start", "()I"⟩
abbrev cX5_isStarted : ByteArray := prog_7_method_11_code
def yX5_isStarted : MethodName := ⟨RX5, "isStarted", "()Z"⟩
abbrev cX5_setting : ByteArray := prog_7_method_12_code
def yX5_setting : MethodName := ⟨RX5, "setting", "(I)I"⟩
abbrev cX5_row : ByteArray := prog_7_method_13_code
def yX5_row : MethodName := ⟨RX5, "row", "(II)I"⟩
abbrev cX5_latestEntry : ByteArray := prog_7_method_14_code
def yX5_latestEntry : MethodName := ⟨RX5, "latestEntry", "(II)I"⟩
abbrev cX5_putLatestEntry : ByteArray := prog_7_method_15_code
def yX5_putLatestEntry : MethodName := ⟨RX5, "putLatestEntry", "(III)V"⟩
abbrev cX5_isFinished : ByteArray := prog_7_method_16_code
def yX5_isFinished : MethodName := ⟨RX5, "isFinished", "(II)Z"⟩
abbrev cX5_entriesWith : ByteArray := prog_7_method_17_code
def yX5_entriesWith : MethodName := ⟨RX5, "entriesWith", "(III)I"⟩
abbrev cX5_elapsedUntil : ByteArray := prog_7_method_18_code
def yX5_elapsedUntil : MethodName := ⟨RX5, "elapsedUntil", "(III)I"⟩
abbrev cX5_elapsed : ByteArray := prog_7_method_19_code
def yX5_elapsed : MethodName := ⟨RX5, "elapsed", "(II)I"⟩
abbrev cX5_corrected : ByteArray := prog_7_method_20_code
def yX5_corrected : MethodName := ⟨RX5, "corrected", "(II)I"⟩
def RX6 : String := "RegattaTimes$Table"
def TX6 : u_T := fun k => match k with
  | 0 => ("RegattaTimes$Table", "columns", "I", true)
  | _ => ("RegattaTimes$Table", "cells", "[I", true)
def tyX6 : Nat → FieldType := fun k => match k with
  | 0 => .int
  | _ => .array .int
abbrev wsX60 : List Cond := u_ws RX6 TX6 2
theorem nmX6 : ∀ a, a < 2 → ∀ b, b < 2 → a ≠ b → (TX6 a).2.1 ≠ (TX6 b).2.1 := by decide +kernel
theorem tyX6_ok : ∀ k, k < 2 → parseFieldDescriptor (TX6 k).2.2.1 = some (tyX6 k) := by decide +kernel
abbrev cX6_init : ByteArray := prog_8_method_1_code
def yX6_init : MethodName := ⟨RX6, "<init>", "(II)V"⟩
abbrev cX6_get : ByteArray := prog_8_method_2_code
def yX6_get : MethodName := ⟨RX6, "get", "(II)I"⟩
abbrev cX6_put : ByteArray := prog_8_method_3_code
def yX6_put : MethodName := ⟨RX6, "put", "(III)V"⟩
abbrev cX6_add : ByteArray := prog_8_method_4_code
def yX6_add : MethodName := ⟨RX6, "add", "(III)V"⟩
abbrev cX6_clearRow : ByteArray := prog_8_method_5_code
def yX6_clearRow : MethodName := ⟨RX6, "clearRow", "(I)V"⟩
abbrev cX6_copyFrom : ByteArray := prog_8_method_6_code
def yX6_copyFrom : MethodName := ⟨RX6, "copyFrom", "(LRegattaTimes$Table;)V"⟩
def RX7 : String := "RegattaTimes"
def TX7 : u_T := fun k => match k with
  | 0 => ("RegattaTimes", "now", "LRegattaTimes$State;", true)
  | 1 => ("RegattaTimes", "committee", "LRegattaTimes$Committee;", true)
  | 2 => ("RegattaTimes", "jury", "LRegattaTimes$Jury;", true)
  | 3 => ("RegattaTimes", "scores", "LRegattaTimes$Scores;", true)
  | 4 => ("RegattaTimes", "supposed", "LRegattaTimes$State;", true)
  | 5 => ("RegattaTimes", "supposedScores", "LRegattaTimes$Scores;", true)
  | 6 => ("RegattaTimes", "history", "LRegattaTimes$History;", true)
  | 7 => ("RegattaTimes", "snapshot", "LRegattaTimes$State;", true)
  | 8 => ("RegattaTimes", "hasSnapshot", "Z", false)
  | _ => ("RegattaTimes", "log", "LRegattaTimes$Log;", true)
def tyX7 : Nat → FieldType := fun k => match k with
  | 0 => .object "RegattaTimes$State"
  | 1 => .object "RegattaTimes$Committee"
  | 2 => .object "RegattaTimes$Jury"
  | 3 => .object "RegattaTimes$Scores"
  | 4 => .object "RegattaTimes$State"
  | 5 => .object "RegattaTimes$Scores"
  | 6 => .object "RegattaTimes$History"
  | 7 => .object "RegattaTimes$State"
  | 8 => .boolean
  | _ => .object "RegattaTimes$Log"
abbrev wsX70 : List Cond := u_ws RX7 TX7 10
theorem nmX7 : ∀ a, a < 10 → ∀ b, b < 10 → a ≠ b → (TX7 a).2.1 ≠ (TX7 b).2.1 := by decide +kernel
theorem tyX7_ok : ∀ k, k < 10 → parseFieldDescriptor (TX7 k).2.2.1 = some (tyX7 k) := by decide +kernel
abbrev cX7_init : ByteArray := prog_1_method_1_code
def yX7_init : MethodName := ⟨RX7, "<init>", "()V"⟩
abbrev cX7_enter : ByteArray := prog_1_method_2_code
def yX7_enter : MethodName := ⟨RX7, "enter", "(I)I"⟩
abbrev cX7_prepare : ByteArray := prog_1_method_3_code
def yX7_prepare : MethodName := ⟨RX7, "prepare", "(III)I"⟩
abbrev cX7_postpone : ByteArray := prog_1_method_4_code
def yX7_postpone : MethodName := ⟨RX7, "postpone", "(I)I"⟩
abbrev cX7_recall : ByteArray := prog_1_method_5_code
def yX7_recall : MethodName := ⟨RX7, "recall", "()I"⟩
abbrev cX7_pass : ByteArray := prog_1_method_6_code
def yX7_pass : MethodName := ⟨RX7, "pass", "(I)I"⟩
abbrev cX7_line : ByteArray := prog_1_method_7_code
def yX7_line : MethodName := ⟨RX7, "line", "(I)I"⟩
abbrev cX7_buoy : ByteArray := prog_1_method_8_code
def yX7_buoy : MethodName := ⟨RX7, "buoy", "(II)I"⟩
abbrev cX7_retire : ByteArray := prog_1_method_9_code
def yX7_retire : MethodName := ⟨RX7, "retire", "(I)I"⟩
abbrev cX7_close : ByteArray := prog_1_method_10_code
def yX7_close : MethodName := ⟨RX7, "close", "()I"⟩
abbrev cX7_hail : ByteArray := prog_1_method_11_code
def yX7_hail : MethodName := ⟨RX7, "hail", "(II)I"⟩
abbrev cX7_file : ByteArray := prog_1_method_12_code
def yX7_file : MethodName := ⟨RX7, "file", "(I)I"⟩
abbrev cX7_accept : ByteArray := prog_1_method_13_code
def yX7_accept : MethodName := ⟨RX7, "accept", "(I)I"⟩
abbrev cX7_decide : ByteArray := prog_1_method_14_code
def yX7_decide : MethodName := ⟨RX7, "decide", "(IZ)I"⟩
abbrev cX7_set : ByteArray := prog_1_method_15_code
def yX7_set : MethodName := ⟨RX7, "set", "(II)I"⟩
abbrev cX7_save : ByteArray := prog_1_method_22_code
def yX7_save : MethodName := ⟨RX7, "save", "()I"⟩
abbrev cX7_restore : ByteArray := prog_1_method_23_code
def yX7_restore : MethodName := ⟨RX7, "restore", "()I"⟩
abbrev cX7_result : ByteArray := prog_1_method_24_code
def yX7_result : MethodName := ⟨RX7, "result", "(III)I"⟩
abbrev cX7_boat : ByteArray := prog_1_method_25_code
def yX7_boat : MethodName := ⟨RX7, "boat", "(II)I"⟩
abbrev cX7_ranked : ByteArray := prog_1_method_26_code
def yX7_ranked : MethodName := ⟨RX7, "ranked", "(I)I"⟩
abbrev cX7_race : ByteArray := prog_1_method_27_code
def yX7_race : MethodName := ⟨RX7, "race", "(II)I"⟩
abbrev cX7_protest : ByteArray := prog_1_method_28_code
def yX7_protest : MethodName := ⟨RX7, "protest", "(II)I"⟩
abbrev cX7_count : ByteArray := prog_1_method_29_code
def yX7_count : MethodName := ⟨RX7, "count", "(I)I"⟩
abbrev cX7_placeNow : ByteArray := prog_1_method_30_code
def yX7_placeNow : MethodName := ⟨RX7, "placeNow", "(I)I"⟩
abbrev cX7_secondsLeft : ByteArray := prog_1_method_31_code
def yX7_secondsLeft : MethodName := ⟨RX7, "secondsLeft", "(I)I"⟩
abbrev cX7_rankIfDisqualified : ByteArray := prog_1_method_32_code
def yX7_rankIfDisqualified : MethodName := ⟨RX7, "rankIfDisqualified", "(II)I"⟩
abbrev cX7_mean : ByteArray := prog_1_method_33_code
def yX7_mean : MethodName := ⟨RX7, "mean", "(I)F"⟩
def RX8 : String := "RegattaTimesModel"
def TX8 : u_T := fun k => match k with
  | _ => ("", "", "", false)
def tyX8 : Nat → FieldType := fun k => match k with
  | _ => .int
abbrev wsX80 : List Cond := u_ws RX8 TX8 0
theorem nmX8 : ∀ a, a < 0 → ∀ b, b < 0 → a ≠ b → (TX8 a).2.1 ≠ (TX8 b).2.1 := by decide +kernel
theorem tyX8_ok : ∀ k, k < 0 → parseFieldDescriptor (TX8 k).2.2.1 = some (tyX8 k) := by decide +kernel
def RJ5 : String := "java/lang/AbstractStringBuilder"
def TJ5 : u_T := fun k => match k with
  | _ => ("", "", "", false)
def tyJ5 : Nat → FieldType := fun k => match k with
  | _ => .int
abbrev wsJ50 : List Cond := u_ws RJ5 TJ5 0
theorem nmJ5 : ∀ a, a < 0 → ∀ b, b < 0 → a ≠ b → (TJ5 a).2.1 ≠ (TJ5 b).2.1 := by decide +kernel
theorem tyJ5_ok : ∀ k, k < 0 → parseFieldDescriptor (TJ5 k).2.2.1 = some (tyJ5 k) := by decide +kernel
abbrev cJ5_init_d00df : ByteArray := prog_11_method_2_code
def yJ5_init_d00df : MethodName := ⟨RJ5, "<init>", "(I)V"⟩
abbrev cJ5_length_8abf5 : ByteArray := prog_11_method_6_code
def yJ5_length_8abf5 : MethodName := ⟨RJ5, "length", "()I"⟩
def RJ9 : String := "java/lang/Math"
def TJ9 : u_T := fun k => match k with
  | _ => ("", "", "", false)
def tyJ9 : Nat → FieldType := fun k => match k with
  | _ => .int
abbrev wsJ90 : List Cond := u_ws RJ9 TJ9 0
theorem nmJ9 : ∀ a, a < 0 → ∀ b, b < 0 → a ≠ b → (TJ9 a).2.1 ≠ (TJ9 b).2.1 := by decide +kernel
theorem tyJ9_ok : ∀ k, k < 0 → parseFieldDescriptor (TJ9 k).2.2.1 = some (tyJ9 k) := by decide +kernel
abbrev cJ9_floorDiv_7cf53 : ByteArray := prog_12_method_47_code
def yJ9_floorDiv_7cf53 : MethodName := ⟨RJ9, "floorDiv", "(II)I"⟩
abbrev cJ9_max_7cf53 : ByteArray := prog_12_method_65_code
def yJ9_max_7cf53 : MethodName := ⟨RJ9, "max", "(II)I"⟩
abbrev cJ9_min_7cf53 : ByteArray := prog_12_method_69_code
def yJ9_min_7cf53 : MethodName := ⟨RJ9, "min", "(II)I"⟩
def RJ0 : String := "java/lang/String"
def TJ0 : u_T := fun k => match k with
  | _ => ("", "", "", false)
def tyJ0 : Nat → FieldType := fun k => match k with
  | _ => .int
abbrev wsJ00 : List Cond := u_ws RJ0 TJ0 0
theorem nmJ0 : ∀ a, a < 0 → ∀ b, b < 0 → a ≠ b → (TJ0 a).2.1 ≠ (TJ0 b).2.1 := by decide +kernel
theorem tyJ0_ok : ∀ k, k < 0 → parseFieldDescriptor (TJ0 k).2.2.1 = some (tyJ0 k) := by decide +kernel
def RJ4 : String := "java/lang/StringBuilder"
def TJ4 : u_T := fun k => match k with
  | 0 => ("java/lang/AbstractStringBuilder", "value", "[B", false)
  | 1 => ("java/lang/AbstractStringBuilder", "coder", "B", false)
  | 2 => ("java/lang/AbstractStringBuilder", "maybeLatin1", "Z", false)
  | _ => ("java/lang/AbstractStringBuilder", "count", "I", false)
def tyJ4 : Nat → FieldType := fun k => match k with
  | 0 => .array .byte
  | 1 => .byte
  | 2 => .boolean
  | _ => .int
abbrev wsJ40 : List Cond := u_ws RJ4 TJ4 4
theorem nmJ4 : ∀ a, a < 4 → ∀ b, b < 4 → a ≠ b → (TJ4 a).2.1 ≠ (TJ4 b).2.1 := by decide +kernel
theorem tyJ4_ok : ∀ k, k < 4 → parseFieldDescriptor (TJ4 k).2.2.1 = some (tyJ4 k) := by decide +kernel
abbrev cJ4_init_da8c8 : ByteArray := prog_14_method_1_code
def yJ4_init_da8c8 : MethodName := ⟨RJ4, "<init>", "()V"⟩
abbrev cJ4_length_8abf5 : ByteArray := prog_14_method_93_code
def yJ4_length_8abf5 : MethodName := ⟨RJ4, "length", "()I"⟩
def RJ2 : String := "java/lang/StringUTF16"
def TJ2 : u_T := fun k => match k with
  | _ => ("", "", "", false)
def tyJ2 : Nat → FieldType := fun k => match k with
  | _ => .int
abbrev wsJ20 : List Cond := u_ws RJ2 TJ2 0
theorem nmJ2 : ∀ a, a < 0 → ∀ b, b < 0 → a ≠ b → (TJ2 a).2.1 ≠ (TJ2 b).2.1 := by decide +kernel
theorem tyJ2_ok : ∀ k, k < 0 → parseFieldDescriptor (TJ2 k).2.2.1 = some (tyJ2 k) := by decide +kernel
abbrev cJ2_newBytesFor_77867 : ByteArray := prog_15_method_2_code
def yJ2_newBytesFor_77867 : MethodName := ⟨RJ2, "newBytesFor", "(I)[B"⟩
abbrev cJ2_newBytesLength_0f7a4 : ByteArray := prog_15_method_3_code
def yJ2_newBytesLength_0f7a4 : MethodName := ⟨RJ2, "newBytesLength", "(I)I"⟩
def RJ10 : String := "java/lang/System"
def TJ10 : u_T := fun k => match k with
  | _ => ("", "", "", false)
def tyJ10 : Nat → FieldType := fun k => match k with
  | _ => .int
abbrev wsJ100 : List Cond := u_ws RJ10 TJ10 0
theorem nmJ10 : ∀ a, a < 0 → ∀ b, b < 0 → a ≠ b → (TJ10 a).2.1 ≠ (TJ10 b).2.1 := by decide +kernel
theorem tyJ10_ok : ∀ k, k < 0 → parseFieldDescriptor (TJ10 k).2.2.1 = some (tyJ10 k) := by decide +kernel
def RL : String := "RegattaTimesLaw"
abbrev cL_cell : ByteArray := method_2_code
def yL_cell : MethodName := ⟨RL, "cell", "([II)I"⟩
abbrev cL_low : ByteArray := method_3_code
def yL_low : MethodName := ⟨RL, "low", "(II)I"⟩
abbrev cL_isEntry : ByteArray := method_4_code
def yL_isEntry : MethodName := ⟨RL, "isEntry", "(LRegattaTimes;II)Z"⟩
abbrev cL_areRaces : ByteArray := method_5_code
def yL_areRaces : MethodName := ⟨RL, "areRaces", "(LRegattaTimes;)Z"⟩
abbrev cL_areBoats : ByteArray := method_6_code
def yL_areBoats : MethodName := ⟨RL, "areBoats", "(LRegattaTimes;)Z"⟩
abbrev cL_areProtests : ByteArray := method_7_code
def yL_areProtests : MethodName := ⟨RL, "areProtests", "(LRegattaTimes;[I)Z"⟩
abbrev cL_finishes : ByteArray := method_8_code
def yL_finishes : MethodName := ⟨RL, "finishes", "(LRegattaTimes;I)Z"⟩
abbrev cL_waits : ByteArray := method_9_code
def yL_waits : MethodName := ⟨RL, "waits", "(LRegattaTimes;I)Z"⟩
abbrev cL_closes : ByteArray := method_10_code
def yL_closes : MethodName := ⟨RL, "closes", "(LRegattaTimes;)Z"⟩
abbrev cL_races : ByteArray := method_11_code
def yL_races : MethodName := ⟨RL, "races", "(LRegattaTimes;II[I)Z"⟩
abbrev cL_sails : ByteArray := method_12_code
def yL_sails : MethodName := ⟨RL, "sails", "(LRegattaTimes;II)Z"⟩
abbrev cL_protests : ByteArray := method_13_code
def yL_protests : MethodName := ⟨RL, "protests", "(LRegattaTimes;I)Z"⟩
abbrev cL_act : ByteArray := method_14_code
def yL_act : MethodName := ⟨RL, "act", "(LRegattaTimes;II[I)Z"⟩
abbrev cL_law : ByteArray := code
def yL_law : MethodName := ⟨RL, "law", "([I)Z"⟩
abbrev vwCl : List vw_C := [(RJ4, TJ4, 4), (RX0, TX0, 1), (RX1, TX1, 3), (RX2, TX2, 1), (RX3, TX3, 1), (RX4, TX4, 5), (RX5, TX5, 10), (RX6, TX6, 2), (RX7, TX7, 10)]
