def RX0 : String := "BookplateHall$BookRecord"
def TX0 : u_T := fun k => match k with
  | 0 => ("BookplateHall$BookRecord", "number", "I", true)
  | 1 => ("BookplateHall$BookRecord", "author", "LBookplateHall$Name;", true)
  | 2 => ("BookplateHall$BookRecord", "title", "I", true)
  | 3 => ("BookplateHall$BookRecord", "year", "I", true)
  | 4 => ("BookplateHall$BookRecord", "line", "LBookplateHall$WaitingLine;", true)
  | 5 => ("BookplateHall$BookRecord", "wentInto", "LBookplateHall$BookRecord;", false)
  | _ => ("BookplateHall$BookRecord", "timesLent", "I", false)
def tyX0 : Nat → FieldType := fun k => match k with
  | 0 => .int
  | 1 => .object "BookplateHall$Name"
  | 2 => .int
  | 3 => .int
  | 4 => .object "BookplateHall$WaitingLine"
  | 5 => .object "BookplateHall$BookRecord"
  | _ => .int
abbrev wsX00 : List Cond := u_ws RX0 TX0 7
theorem nmX0 : ∀ a, a < 7 → ∀ b, b < 7 → a ≠ b → (TX0 a).2.1 ≠ (TX0 b).2.1 := by decide +kernel
theorem tyX0_ok : ∀ k, k < 7 → parseFieldDescriptor (TX0 k).2.2.1 = some (tyX0 k) := by decide +kernel
abbrev cX0_init : ByteArray := prog_2_method_1_code
def yX0_init : MethodName := ⟨RX0, "<init>", "(ILBookplateHall$Name;II)V"⟩
abbrev cX0_isLive : ByteArray := prog_2_method_2_code
def yX0_isLive : MethodName := ⟨RX0, "isLive", "()Z"⟩
abbrev cX0_liveOne : ByteArray := prog_2_method_3_code
def yX0_liveOne : MethodName := ⟨RX0, "liveOne", "()LBookplateHall$BookRecord;"⟩
abbrev cX0_isBy : ByteArray := prog_2_method_5_code
def yX0_isBy : MethodName := ⟨RX0, "isBy", "(LBookplateHall$Name;)Z"⟩
abbrev cX0_likenessTo : ByteArray := prog_2_method_6_code
def yX0_likenessTo : MethodName := ⟨RX0, "likenessTo", "(LBookplateHall$BookRecord;)I"⟩
abbrev cX0_likenessOfAuthors : ByteArray := prog_2_method_7_code
def yX0_likenessOfAuthors : MethodName := ⟨RX0, "likenessOfAuthors", "(LBookplateHall$BookRecord;)I"⟩
abbrev cX0_likenessOfTitles : ByteArray := prog_2_method_8_code
def yX0_likenessOfTitles : MethodName := ⟨RX0, "likenessOfTitles", "(LBookplateHall$BookRecord;)I"⟩
abbrev cX0_likenessOfYears : ByteArray := prog_2_method_9_code
def yX0_likenessOfYears : MethodName := ⟨RX0, "likenessOfYears", "(LBookplateHall$BookRecord;)I"⟩
def RX1 : String := "BookplateHall$Copy"
def TX1 : u_T := fun k => match k with
  | 0 => ("BookplateHall$Copy", "number", "I", true)
  | 1 => ("BookplateHall$Copy", "price", "I", true)
  | 2 => ("BookplateHall$Copy", "record", "LBookplateHall$BookRecord;", false)
  | 3 => ("BookplateHall$Copy", "place", "I", false)
  | 4 => ("BookplateHall$Copy", "reader", "LBookplateHall$Reader;", false)
  | 5 => ("BookplateHall$Copy", "day", "I", false)
  | 6 => ("BookplateHall$Copy", "timesRenewed", "I", false)
  | _ => ("BookplateHall$Copy", "thereIn", "I", false)
def tyX1 : Nat → FieldType := fun k => match k with
  | 0 => .int
  | 1 => .int
  | 2 => .object "BookplateHall$BookRecord"
  | 3 => .int
  | 4 => .object "BookplateHall$Reader"
  | 5 => .int
  | 6 => .int
  | _ => .int
abbrev wsX10 : List Cond := u_ws RX1 TX1 8
theorem nmX1 : ∀ a, a < 8 → ∀ b, b < 8 → a ≠ b → (TX1 a).2.1 ≠ (TX1 b).2.1 := by decide +kernel
theorem tyX1_ok : ∀ k, k < 8 → parseFieldDescriptor (TX1 k).2.2.1 = some (tyX1 k) := by decide +kernel
abbrev cX1_init : ByteArray := prog_3_method_1_code
def yX1_init : MethodName := ⟨RX1, "<init>", "(ILBookplateHall$BookRecord;I)V"⟩
abbrev cX1_put : ByteArray := prog_3_method_2_code
def yX1_put : MethodName := ⟨RX1, "put", "(ILBookplateHall$Reader;I)V"⟩
abbrev cX1_isAsideFor : ByteArray := prog_3_method_3_code
def yX1_isAsideFor : MethodName := ⟨RX1, "isAsideFor", "(LBookplateHall$Reader;LBookplateHall$BookRecord;)Z"⟩
abbrev cX1_daysLateOn : ByteArray := prog_3_method_4_code
def yX1_daysLateOn : MethodName := ⟨RX1, "daysLateOn", "(I)I"⟩
abbrev cX1_isLostOn : ByteArray := prog_3_method_5_code
def yX1_isLostOn : MethodName := ⟨RX1, "isLostOn", "(I)Z"⟩
abbrev cX1_fineOn : ByteArray := prog_3_method_6_code
def yX1_fineOn : MethodName := ⟨RX1, "fineOn", "(I)I"⟩
abbrev cX1_feeWhenLost : ByteArray := prog_3_method_7_code
def yX1_feeWhenLost : MethodName := ⟨RX1, "feeWhenLost", "()I"⟩
abbrev cX1_daysUntilThere : ByteArray := prog_3_method_8_code
def yX1_daysUntilThere : MethodName := ⟨RX1, "daysUntilThere", "(I)I"⟩
def RX2 : String := "BookplateHall$Name"
def TX2 : u_T := fun k => match k with
  | 0 => ("BookplateHall$Name", "number", "I", true)
  | _ => ("BookplateHall$Name", "variantOf", "LBookplateHall$Name;", false)
def tyX2 : Nat → FieldType := fun k => match k with
  | 0 => .int
  | _ => .object "BookplateHall$Name"
abbrev wsX20 : List Cond := u_ws RX2 TX2 2
theorem nmX2 : ∀ a, a < 2 → ∀ b, b < 2 → a ≠ b → (TX2 a).2.1 ≠ (TX2 b).2.1 := by decide +kernel
theorem tyX2_ok : ∀ k, k < 2 → parseFieldDescriptor (TX2 k).2.2.1 = some (tyX2 k) := by decide +kernel
abbrev cX2_init : ByteArray := prog_4_method_1_code
def yX2_init : MethodName := ⟨RX2, "<init>", "(I)V"⟩
abbrev cX2_stoodFor : ByteArray := prog_4_method_2_code
def yX2_stoodFor : MethodName := ⟨RX2, "stoodFor", "()LBookplateHall$Name;"⟩
def RX3 : String := "BookplateHall$Reader"
def TX3 : u_T := fun k => match k with
  | 0 => ("BookplateHall$Reader", "number", "I", true)
  | 1 => ("BookplateHall$Reader", "kind", "I", true)
  | _ => ("BookplateHall$Reader", "owes", "I", false)
def tyX3 : Nat → FieldType := fun k => match k with
  | 0 => .int
  | 1 => .int
  | _ => .int
abbrev wsX30 : List Cond := u_ws RX3 TX3 3
theorem nmX3 : ∀ a, a < 3 → ∀ b, b < 3 → a ≠ b → (TX3 a).2.1 ≠ (TX3 b).2.1 := by decide +kernel
theorem tyX3_ok : ∀ k, k < 3 → parseFieldDescriptor (TX3 k).2.2.1 = some (tyX3 k) := by decide +kernel
abbrev cX3_init : ByteArray := prog_5_method_1_code
def yX3_init : MethodName := ⟨RX3, "<init>", "(II)V"⟩
abbrev cX3_mostCopies : ByteArray := prog_5_method_2_code
def yX3_mostCopies : MethodName := ⟨RX3, "mostCopies", "()I"⟩
abbrev cX3_daysOfALoan : ByteArray := prog_5_method_3_code
def yX3_daysOfALoan : MethodName := ⟨RX3, "daysOfALoan", "()I"⟩
def RX4 : String := "BookplateHall$WaitingLine"
def TX4 : u_T := fun k => match k with
  | 0 => ("BookplateHall$WaitingLine", "readers", "[LBookplateHall$Reader;", true)
  | _ => ("BookplateHall$WaitingLine", "length", "I", false)
def tyX4 : Nat → FieldType := fun k => match k with
  | 0 => .array (.object "BookplateHall$Reader")
  | _ => .int
abbrev wsX40 : List Cond := u_ws RX4 TX4 2
theorem nmX4 : ∀ a, a < 2 → ∀ b, b < 2 → a ≠ b → (TX4 a).2.1 ≠ (TX4 b).2.1 := by decide +kernel
theorem tyX4_ok : ∀ k, k < 2 → parseFieldDescriptor (TX4 k).2.2.1 = some (tyX4 k) := by decide +kernel
abbrev cX4_init : ByteArray := prog_6_method_1_code
def yX4_init : MethodName := ⟨RX4, "<init>", "()V"⟩
abbrev cX4_holds : ByteArray := prog_6_method_2_code
def yX4_holds : MethodName := ⟨RX4, "holds", "(LBookplateHall$Reader;)Z"⟩
abbrev cX4_at : ByteArray := prog_6_method_3_code
def yX4_at : MethodName := ⟨RX4, "at", "(I)LBookplateHall$Reader;"⟩
abbrev cX4_join : ByteArray := prog_6_method_4_code
def yX4_join : MethodName := ⟨RX4, "join", "(LBookplateHall$Reader;)V"⟩
abbrev cX4_drop : ByteArray := prog_6_method_5_code
def yX4_drop : MethodName := ⟨RX4, "drop", "(LBookplateHall$Reader;)V"⟩
abbrev cX4_clear : ByteArray := prog_6_method_6_code
def yX4_clear : MethodName := ⟨RX4, "clear", "()V"⟩
def RX5 : String := "BookplateHall"
def TX5 : u_T := fun k => match k with
  | 0 => ("BookplateHall", "names", "[LBookplateHall$Name;", true)
  | 1 => ("BookplateHall", "records", "[LBookplateHall$BookRecord;", true)
  | 2 => ("BookplateHall", "copies", "[LBookplateHall$Copy;", true)
  | 3 => ("BookplateHall", "readers", "[LBookplateHall$Reader;", true)
  | 4 => ("BookplateHall", "nameCount", "I", false)
  | 5 => ("BookplateHall", "recordCount", "I", false)
  | 6 => ("BookplateHall", "copyCount", "I", false)
  | 7 => ("BookplateHall", "readerCount", "I", false)
  | _ => ("BookplateHall", "today", "I", false)
def tyX5 : Nat → FieldType := fun k => match k with
  | 0 => .array (.object "BookplateHall$Name")
  | 1 => .array (.object "BookplateHall$BookRecord")
  | 2 => .array (.object "BookplateHall$Copy")
  | 3 => .array (.object "BookplateHall$Reader")
  | 4 => .int
  | 5 => .int
  | 6 => .int
  | 7 => .int
  | _ => .int
abbrev wsX50 : List Cond := u_ws RX5 TX5 9
theorem nmX5 : ∀ a, a < 9 → ∀ b, b < 9 → a ≠ b → (TX5 a).2.1 ≠ (TX5 b).2.1 := by decide +kernel
theorem tyX5_ok : ∀ k, k < 9 → parseFieldDescriptor (TX5 k).2.2.1 = some (tyX5 k) := by decide +kernel
abbrev cX5_init : ByteArray := prog_1_method_1_code
def yX5_init : MethodName := ⟨RX5, "<init>", "()V"⟩
abbrev cX5_name : ByteArray := prog_1_method_2_code
def yX5_name : MethodName := ⟨RX5, "name", "()I"⟩
abbrev cX5_record : ByteArray := prog_1_method_5_code
def yX5_record : MethodName := ⟨RX5, "record", "(III)I"⟩
abbrev cX5_ofRecord : ByteArray := prog_1_method_6_code
def yX5_ofRecord : MethodName := ⟨RX5, "ofRecord", "(II)I"⟩
abbrev cX5_likeness : ByteArray := prog_1_method_7_code
def yX5_likeness : MethodName := ⟨RX5, "likeness", "(II)I"⟩
abbrev cX5_twin : ByteArray := prog_1_method_8_code
def yX5_twin : MethodName := ⟨RX5, "twin", "(II)I"⟩
abbrev cX5_lay : ByteArray := prog_1_method_9_code
def yX5_lay : MethodName := ⟨RX5, "lay", "(II)I"⟩
abbrev cX5_copy : ByteArray := prog_1_method_11_code
def yX5_copy : MethodName := ⟨RX5, "copy", "(II)I"⟩
abbrev cX5_ofCopy : ByteArray := prog_1_method_12_code
def yX5_ofCopy : MethodName := ⟨RX5, "ofCopy", "(II)I"⟩
abbrev cX5_reader : ByteArray := prog_1_method_13_code
def yX5_reader : MethodName := ⟨RX5, "reader", "(I)I"⟩
abbrev cX5_ofReader : ByteArray := prog_1_method_14_code
def yX5_ofReader : MethodName := ⟨RX5, "ofReader", "(II)I"⟩
abbrev cX5_pay : ByteArray := prog_1_method_15_code
def yX5_pay : MethodName := ⟨RX5, "pay", "(II)I"⟩
abbrev cX5_lend : ByteArray := prog_1_method_17_code
def yX5_lend : MethodName := ⟨RX5, "lend", "(II)I"⟩
abbrev cX5_renew : ByteArray := prog_1_method_18_code
def yX5_renew : MethodName := ⟨RX5, "renew", "(I)I"⟩
abbrev cX5_back : ByteArray := prog_1_method_19_code
def yX5_back : MethodName := ⟨RX5, "back", "(I)I"⟩
abbrev cX5_find : ByteArray := prog_1_method_20_code
def yX5_find : MethodName := ⟨RX5, "find", "(I)I"⟩
abbrev cX5_await : ByteArray := prog_1_method_21_code
def yX5_await : MethodName := ⟨RX5, "await", "(II)I"⟩
abbrev cX5_leave : ByteArray := prog_1_method_22_code
def yX5_leave : MethodName := ⟨RX5, "leave", "(II)I"⟩
abbrev cX5_waiter : ByteArray := prog_1_method_23_code
def yX5_waiter : MethodName := ⟨RX5, "waiter", "(II)I"⟩
abbrev cX5_pass : ByteArray := prog_1_method_24_code
def yX5_pass : MethodName := ⟨RX5, "pass", "(I)I"⟩
abbrev cX5_many : ByteArray := prog_1_method_25_code
def yX5_many : MethodName := ⟨RX5, "many", "(I)I"⟩
abbrev cX5_meanWaits : ByteArray := prog_1_method_26_code
def yX5_meanWaits : MethodName := ⟨RX5, "meanWaits", "()D"⟩
abbrev cX5_fineIn : ByteArray := prog_1_method_27_code
def yX5_fineIn : MethodName := ⟨RX5, "fineIn", "(II)I"⟩
abbrev cX5_soon : ByteArray := prog_1_method_28_code
def yX5_soon : MethodName := ⟨RX5, "soon", "(II)I"⟩
abbrev cX5_mayBorrow : ByteArray := prog_1_method_29_code
def yX5_mayBorrow : MethodName := ⟨RX5, "mayBorrow", "(I)I"⟩
abbrev cX5_lostIn : ByteArray := prog_1_method_30_code
def yX5_lostIn : MethodName := ⟨RX5, "lostIn", "(I)I"⟩
abbrev cX5_digest : ByteArray := prog_1_method_31_code
def yX5_digest : MethodName := ⟨RX5, "digest", "()J"⟩
abbrev cX5_knownName : ByteArray := prog_1_method_32_code
def yX5_knownName : MethodName := ⟨RX5, "knownName", "(I)LBookplateHall$Name;"⟩
abbrev cX5_knownNameOrNull : ByteArray := prog_1_method_33_code
def yX5_knownNameOrNull : MethodName := ⟨RX5, "knownNameOrNull", "(I)LBookplateHall$Name;"⟩
abbrev cX5_knownRecord : ByteArray := prog_1_method_34_code
def yX5_knownRecord : MethodName := ⟨RX5, "knownRecord", "(I)LBookplateHall$BookRecord;"⟩
abbrev cX5_knownCopy : ByteArray := prog_1_method_35_code
def yX5_knownCopy : MethodName := ⟨RX5, "knownCopy", "(I)LBookplateHall$Copy;"⟩
abbrev cX5_knownReader : ByteArray := prog_1_method_36_code
def yX5_knownReader : MethodName := ⟨RX5, "knownReader", "(I)LBookplateHall$Reader;"⟩
abbrev cX5_requireBetween : ByteArray := prog_1_method_37_code
def yX5_requireBetween : MethodName := ⟨RX5, "requireBetween", "(III)V"⟩
abbrev cX5_factOfRecord : ByteArray := prog_1_method_38_code
def yX5_factOfRecord : MethodName := ⟨RX5, "factOfRecord", "(LBookplateHall$BookRecord;I)I"⟩
abbrev cX5_factOfCopy : ByteArray := prog_1_method_39_code
def yX5_factOfCopy : MethodName := ⟨RX5, "factOfCopy", "(LBookplateHall$Copy;I)I"⟩
abbrev cX5_factOfReader : ByteArray := prog_1_method_40_code
def yX5_factOfReader : MethodName := ⟨RX5, "factOfReader", "(LBookplateHall$Reader;I)I"⟩
abbrev cX5_total : ByteArray := prog_1_method_41_code
def yX5_total : MethodName := ⟨RX5, "total", "(I)I"⟩
abbrev cX5_copiesNotLost : ByteArray := prog_1_method_42_code
def yX5_copiesNotLost : MethodName := ⟨RX5, "copiesNotLost", "(LBookplateHall$BookRecord;)I"⟩
abbrev cX5_copiesOf : ByteArray := prog_1_method_43_code
def yX5_copiesOf : MethodName := ⟨RX5, "copiesOf", "(LBookplateHall$Reader;I)I"⟩
abbrev cX5_lateCopiesOf : ByteArray := prog_1_method_44_code
def yX5_lateCopiesOf : MethodName := ⟨RX5, "lateCopiesOf", "(LBookplateHall$Reader;)I"⟩
abbrev cX5_finesOf : ByteArray := prog_1_method_45_code
def yX5_finesOf : MethodName := ⟨RX5, "finesOf", "(LBookplateHall$Reader;)I"⟩
abbrev cX5_waitsOf : ByteArray := prog_1_method_46_code
def yX5_waitsOf : MethodName := ⟨RX5, "waitsOf", "(LBookplateHall$Reader;)I"⟩
abbrev cX5_liveRecords : ByteArray := prog_1_method_47_code
def yX5_liveRecords : MethodName := ⟨RX5, "liveRecords", "()I"⟩
abbrev cX5_copiesAt : ByteArray := prog_1_method_48_code
def yX5_copiesAt : MethodName := ⟨RX5, "copiesAt", "(I)I"⟩
abbrev cX5_owedByAll : ByteArray := prog_1_method_49_code
def yX5_owedByAll : MethodName := ⟨RX5, "owedByAll", "()I"⟩
abbrev cX5_reasonAgainst : ByteArray := prog_1_method_50_code
def yX5_reasonAgainst : MethodName := ⟨RX5, "reasonAgainst", "(LBookplateHall$Reader;LBookplateHall$Copy;)I"⟩
abbrev cX5_borrowable : ByteArray := prog_1_method_51_code
def yX5_borrowable : MethodName := ⟨RX5, "borrowable", "(LBookplateHall$Reader;)I"⟩
abbrev cX5_mayBeRenewed : ByteArray := prog_1_method_52_code
def yX5_mayBeRenewed : MethodName := ⟨RX5, "mayBeRenewed", "(LBookplateHall$Copy;)Z"⟩
abbrev cX5_hasCopyOf : ByteArray := prog_1_method_53_code
def yX5_hasCopyOf : MethodName := ⟨RX5, "hasCopyOf", "(LBookplateHall$Reader;LBookplateHall$BookRecord;)Z"⟩
abbrev cX5_firstAside : ByteArray := prog_1_method_54_code
def yX5_firstAside : MethodName := ⟨RX5, "firstAside", "(LBookplateHall$Reader;LBookplateHall$BookRecord;)LBookplateHall$Copy;"⟩
abbrev cX5_firstIn : ByteArray := prog_1_method_55_code
def yX5_firstIn : MethodName := ⟨RX5, "firstIn", "(LBookplateHall$BookRecord;)LBookplateHall$Copy;"⟩
abbrev cX5_firstWithNoneAside : ByteArray := prog_1_method_56_code
def yX5_firstWithNoneAside : MethodName := ⟨RX5, "firstWithNoneAside", "(LBookplateHall$BookRecord;)LBookplateHall$Reader;"⟩
abbrev cX5_free : ByteArray := prog_1_method_57_code
def yX5_free : MethodName := ⟨RX5, "free", "(LBookplateHall$Copy;)V"⟩
abbrev cX5_endWait : ByteArray := prog_1_method_58_code
def yX5_endWait : MethodName := ⟨RX5, "endWait", "(LBookplateHall$Reader;LBookplateHall$BookRecord;)V"⟩
abbrev cX5_moveCopies : ByteArray := prog_1_method_59_code
def yX5_moveCopies : MethodName := ⟨RX5, "moveCopies", "(LBookplateHall$BookRecord;LBookplateHall$BookRecord;)V"⟩
abbrev cX5_moveWaiters : ByteArray := prog_1_method_60_code
def yX5_moveWaiters : MethodName := ⟨RX5, "moveWaiters", "(LBookplateHall$BookRecord;LBookplateHall$BookRecord;)V"⟩
abbrev cX5_freeThoseWronglyAside : ByteArray := prog_1_method_61_code
def yX5_freeThoseWronglyAside : MethodName := ⟨RX5, "freeThoseWronglyAside", "()V"⟩
abbrev cX5_isRightlyAside : ByteArray := prog_1_method_62_code
def yX5_isRightlyAside : MethodName := ⟨RX5, "isRightlyAside", "(LBookplateHall$Copy;)Z"⟩
abbrev cX5_freeThoseIn : ByteArray := prog_1_method_63_code
def yX5_freeThoseIn : MethodName := ⟨RX5, "freeThoseIn", "()V"⟩
abbrev cX5_passOneDay : ByteArray := prog_1_method_64_code
def yX5_passOneDay : MethodName := ⟨RX5, "passOneDay", "()I"⟩
abbrev cX5_lose : ByteArray := prog_1_method_65_code
def yX5_lose : MethodName := ⟨RX5, "lose", "(LBookplateHall$Copy;)V"⟩
abbrev cX5_lostWithin : ByteArray := prog_1_method_66_code
def yX5_lostWithin : MethodName := ⟨RX5, "lostWithin", "(I)I"⟩
abbrev cX5_daysUntilServed : ByteArray := prog_1_method_67_code
def yX5_daysUntilServed : MethodName := ⟨RX5, "daysUntilServed", "(LBookplateHall$Reader;LBookplateHall$BookRecord;)I"⟩
abbrev cX5_reckonWhenThere : ByteArray := prog_1_method_68_code
def yX5_reckonWhenThere : MethodName := ⟨RX5, "reckonWhenThere", "(LBookplateHall$BookRecord;)V"⟩
abbrev cX5_firstThere : ByteArray := prog_1_method_69_code
def yX5_firstThere : MethodName := ⟨RX5, "firstThere", "(LBookplateHall$BookRecord;)LBookplateHall$Copy;"⟩
abbrev cX5_digested : ByteArray := prog_1_method_70_code
def yX5_digested : MethodName := ⟨RX5, "digested", "(JI)J"⟩
abbrev cX5_digestedRecord : ByteArray := prog_1_method_71_code
def yX5_digestedRecord : MethodName := ⟨RX5, "digestedRecord", "(JLBookplateHall$BookRecord;)J"⟩
abbrev cX5_digestedCopy : ByteArray := prog_1_method_72_code
def yX5_digestedCopy : MethodName := ⟨RX5, "digestedCopy", "(JLBookplateHall$Copy;)J"⟩
abbrev cX5_digestedReader : ByteArray := prog_1_method_73_code
def yX5_digestedReader : MethodName := ⟨RX5, "digestedReader", "(JLBookplateHall$Reader;)J"⟩
def RX6 : String := "BookplateHallModel$Copy"
def TX6 : u_T := fun k => match k with
  | _ => ("", "", "", false)
def tyX6 : Nat → FieldType := fun k => match k with
  | _ => .int
abbrev wsX60 : List Cond := u_ws RX6 TX6 0
theorem nmX6 : ∀ a, a < 0 → ∀ b, b < 0 → a ≠ b → (TX6 a).2.1 ≠ (TX6 b).2.1 := by decide +kernel
theorem tyX6_ok : ∀ k, k < 0 → parseFieldDescriptor (TX6 k).2.2.1 = some (tyX6 k) := by decide +kernel
def RX7 : String := "BookplateHallModel$Hall"
def TX7 : u_T := fun k => match k with
  | _ => ("", "", "", false)
def tyX7 : Nat → FieldType := fun k => match k with
  | _ => .int
abbrev wsX70 : List Cond := u_ws RX7 TX7 0
theorem nmX7 : ∀ a, a < 0 → ∀ b, b < 0 → a ≠ b → (TX7 a).2.1 ≠ (TX7 b).2.1 := by decide +kernel
theorem tyX7_ok : ∀ k, k < 0 → parseFieldDescriptor (TX7 k).2.2.1 = some (tyX7 k) := by decide +kernel
def RX8 : String := "BookplateHallModel$Reader"
def TX8 : u_T := fun k => match k with
  | _ => ("", "", "", false)
def tyX8 : Nat → FieldType := fun k => match k with
  | _ => .int
abbrev wsX80 : List Cond := u_ws RX8 TX8 0
theorem nmX8 : ∀ a, a < 0 → ∀ b, b < 0 → a ≠ b → (TX8 a).2.1 ≠ (TX8 b).2.1 := by decide +kernel
theorem tyX8_ok : ∀ k, k < 0 → parseFieldDescriptor (TX8 k).2.2.1 = some (tyX8 k) := by decide +kernel
def RX9 : String := "BookplateHallModel$Record"
def TX9 : u_T := fun k => match k with
  | _ => ("", "", "", false)
def tyX9 : Nat → FieldType := fun k => match k with
  | _ => .int
abbrev wsX90 : List Cond := u_ws RX9 TX9 0
theorem nmX9 : ∀ a, a < 0 → ∀ b, b < 0 → a ≠ b → (TX9 a).2.1 ≠ (TX9 b).2.1 := by decide +kernel
theorem tyX9_ok : ∀ k, k < 0 → parseFieldDescriptor (TX9 k).2.2.1 = some (tyX9 k) := by decide +kernel
def RX10 : String := "BookplateHallModel"
def TX10 : u_T := fun k => match k with
  | _ => ("", "", "", false)
def tyX10 : Nat → FieldType := fun k => match k with
  | _ => .int
abbrev wsX100 : List Cond := u_ws RX10 TX10 0
theorem nmX10 : ∀ a, a < 0 → ∀ b, b < 0 → a ≠ b → (TX10 a).2.1 ≠ (TX10 b).2.1 := by decide +kernel
theorem tyX10_ok : ∀ k, k < 0 → parseFieldDescriptor (TX10 k).2.2.1 = some (tyX10 k) := by decide +kernel
def RJx145de : String := "java/io/Serializable"
def TJx145de : u_T := fun k => match k with
  | _ => ("", "", "", false)
def tyJx145de : Nat → FieldType := fun k => match k with
  | _ => .int
abbrev wsJx145de0 : List Cond := u_ws RJx145de TJx145de 0
theorem nmJx145de : ∀ a, a < 0 → ∀ b, b < 0 → a ≠ b → (TJx145de a).2.1 ≠ (TJx145de b).2.1 := by decide +kernel
theorem tyJx145de_ok : ∀ k, k < 0 → parseFieldDescriptor (TJx145de k).2.2.1 = some (tyJx145de k) := by decide +kernel
def RJxb160c : String := "java/lang/Comparable"
def TJxb160c : u_T := fun k => match k with
  | _ => ("", "", "", false)
def tyJxb160c : Nat → FieldType := fun k => match k with
  | _ => .int
abbrev wsJxb160c0 : List Cond := u_ws RJxb160c TJxb160c 0
theorem nmJxb160c : ∀ a, a < 0 → ∀ b, b < 0 → a ≠ b → (TJxb160c a).2.1 ≠ (TJxb160c b).2.1 := by decide +kernel
theorem tyJxb160c_ok : ∀ k, k < 0 → parseFieldDescriptor (TJxb160c k).2.2.1 = some (tyJxb160c k) := by decide +kernel
def RJxe99ae : String := "java/lang/Double"
def TJxe99ae : u_T := fun k => match k with
  | _ => ("", "", "", false)
def tyJxe99ae : Nat → FieldType := fun k => match k with
  | _ => .int
abbrev wsJxe99ae0 : List Cond := u_ws RJxe99ae TJxe99ae 0
theorem nmJxe99ae : ∀ a, a < 0 → ∀ b, b < 0 → a ≠ b → (TJxe99ae a).2.1 ≠ (TJxe99ae b).2.1 := by decide +kernel
theorem tyJxe99ae_ok : ∀ k, k < 0 → parseFieldDescriptor (TJxe99ae k).2.2.1 = some (tyJxe99ae k) := by decide +kernel
def RJ6 : String := "java/lang/Integer"
def TJ6 : u_T := fun k => match k with
  | _ => ("", "", "", false)
def tyJ6 : Nat → FieldType := fun k => match k with
  | _ => .int
abbrev wsJ60 : List Cond := u_ws RJ6 TJ6 0
theorem nmJ6 : ∀ a, a < 0 → ∀ b, b < 0 → a ≠ b → (TJ6 a).2.1 ≠ (TJ6 b).2.1 := by decide +kernel
theorem tyJ6_ok : ∀ k, k < 0 → parseFieldDescriptor (TJ6 k).2.2.1 = some (tyJ6 k) := by decide +kernel
abbrev cJ6_bitCount_0f7a4 : ByteArray := prog_18_method_49_code
def yJ6_bitCount_0f7a4 : MethodName := ⟨RJ6, "bitCount", "(I)I"⟩
def RJ9 : String := "java/lang/Math"
def TJ9 : u_T := fun k => match k with
  | _ => ("", "", "", false)
def tyJ9 : Nat → FieldType := fun k => match k with
  | _ => .int
abbrev wsJ90 : List Cond := u_ws RJ9 TJ9 0
theorem nmJ9 : ∀ a, a < 0 → ∀ b, b < 0 → a ≠ b → (TJ9 a).2.1 ≠ (TJ9 b).2.1 := by decide +kernel
theorem tyJ9_ok : ∀ k, k < 0 → parseFieldDescriptor (TJ9 k).2.2.1 = some (tyJ9 k) := by decide +kernel
abbrev cJ9_abs_0f7a4 : ByteArray := prog_19_method_59_code
def yJ9_abs_0f7a4 : MethodName := ⟨RJ9, "abs", "(I)I"⟩
abbrev cJ9_abs_294c1 : ByteArray := prog_19_method_64_code
def yJ9_abs_294c1 : MethodName := ⟨RJ9, "abs", "(D)D"⟩
abbrev cJ9_max_7cf53 : ByteArray := prog_19_method_65_code
def yJ9_max_7cf53 : MethodName := ⟨RJ9, "max", "(II)I"⟩
abbrev cJ9_min_7cf53 : ByteArray := prog_19_method_69_code
def yJ9_min_7cf53 : MethodName := ⟨RJ9, "min", "(II)I"⟩
def RJxd2413 : String := "java/lang/Number"
def TJxd2413 : u_T := fun k => match k with
  | _ => ("", "", "", false)
def tyJxd2413 : Nat → FieldType := fun k => match k with
  | _ => .int
abbrev wsJxd24130 : List Cond := u_ws RJxd2413 TJxd2413 0
theorem nmJxd2413 : ∀ a, a < 0 → ∀ b, b < 0 → a ≠ b → (TJxd2413 a).2.1 ≠ (TJxd2413 b).2.1 := by decide +kernel
theorem tyJxd2413_ok : ∀ k, k < 0 → parseFieldDescriptor (TJxd2413 k).2.2.1 = some (tyJxd2413 k) := by decide +kernel
def RJ0 : String := "java/lang/String"
def TJ0 : u_T := fun k => match k with
  | _ => ("", "", "", false)
def tyJ0 : Nat → FieldType := fun k => match k with
  | _ => .int
abbrev wsJ00 : List Cond := u_ws RJ0 TJ0 0
theorem nmJ0 : ∀ a, a < 0 → ∀ b, b < 0 → a ≠ b → (TJ0 a).2.1 ≠ (TJ0 b).2.1 := by decide +kernel
theorem tyJ0_ok : ∀ k, k < 0 → parseFieldDescriptor (TJ0 k).2.2.1 = some (tyJ0 k) := by decide +kernel
def RJxfd54e : String := "java/lang/constant/Constable"
def TJxfd54e : u_T := fun k => match k with
  | _ => ("", "", "", false)
def tyJxfd54e : Nat → FieldType := fun k => match k with
  | _ => .int
abbrev wsJxfd54e0 : List Cond := u_ws RJxfd54e TJxfd54e 0
theorem nmJxfd54e : ∀ a, a < 0 → ∀ b, b < 0 → a ≠ b → (TJxfd54e a).2.1 ≠ (TJxfd54e b).2.1 := by decide +kernel
theorem tyJxfd54e_ok : ∀ k, k < 0 → parseFieldDescriptor (TJxfd54e k).2.2.1 = some (tyJxfd54e k) := by decide +kernel
def RJx3cf43 : String := "java/lang/constant/ConstantDesc"
def TJx3cf43 : u_T := fun k => match k with
  | _ => ("", "", "", false)
def tyJx3cf43 : Nat → FieldType := fun k => match k with
  | _ => .int
abbrev wsJx3cf430 : List Cond := u_ws RJx3cf43 TJx3cf43 0
theorem nmJx3cf43 : ∀ a, a < 0 → ∀ b, b < 0 → a ≠ b → (TJx3cf43 a).2.1 ≠ (TJx3cf43 b).2.1 := by decide +kernel
theorem tyJx3cf43_ok : ∀ k, k < 0 → parseFieldDescriptor (TJx3cf43 k).2.2.1 = some (tyJx3cf43 k) := by decide +kernel
def RL : String := "BookplateHallLaw"
abbrev cL_below : ByteArray := method_2_code
def yL_below : MethodName := ⟨RL, "below", "(II)I"⟩
abbrev cL_cell : ByteArray := method_3_code
def yL_cell : MethodName := ⟨RL, "cell", "([II)I"⟩
abbrev cL_law : ByteArray := code
def yL_law : MethodName := ⟨RL, "law", "([I)Z"⟩
abbrev cL_act : ByteArray := method_5_code
def yL_act : MethodName := ⟨RL, "act", "(LBookplateHall;I)Z"⟩
abbrev cL_areCopiesRight : ByteArray := method_6_code
def yL_areCopiesRight : MethodName := ⟨RL, "areCopiesRight", "(LBookplateHall;)Z"⟩
abbrev cL_areRecordsRight : ByteArray := method_7_code
def yL_areRecordsRight : MethodName := ⟨RL, "areRecordsRight", "(LBookplateHall;)Z"⟩
abbrev cL_areReadersRight : ByteArray := method_8_code
def yL_areReadersRight : MethodName := ⟨RL, "areReadersRight", "(LBookplateHall;)Z"⟩
abbrev vwCl : List vw_C := [(RX0, TX0, 7), (RX1, TX1, 8), (RX2, TX2, 2), (RX3, TX3, 3), (RX4, TX4, 2), (RX5, TX5, 9)]
