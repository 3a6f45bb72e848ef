def RX0 : String := "RentDivision$Bill"
def TX0 : u_T := fun k => match k with
  | 0 => ("RentDivision$Bill", "prices", "[I", true)
  | 1 => ("RentDivision$Bill", "incomeParts", "[I", true)
  | 2 => ("RentDivision$Bill", "payments", "[I", true)
  | _ => ("RentDivision$Bill", "split", "LRentDivision$Split;", true)
def tyX0 : Nat → FieldType := fun k => match k with
  | 0 => .array .int
  | 1 => .array .int
  | 2 => .array .int
  | _ => .object "RentDivision$Split"
abbrev wsX00 : List Cond := u_ws RX0 TX0 4
theorem nmX0 : ∀ a, a < 4 → ∀ b, b < 4 → a ≠ b → (TX0 a).2.1 ≠ (TX0 b).2.1 := by decide +kernel
theorem tyX0_ok : ∀ k, k < 4 → parseFieldDescriptor (TX0 k).2.2.1 = some (tyX0 k) := by decide +kernel
abbrev cX0_init : ByteArray := prog_2_method_1_code
def yX0_init : MethodName := ⟨RX0, "<init>", "()V"⟩
abbrev cX0_make : ByteArray := prog_2_method_2_code
def yX0_make : MethodName := ⟨RX0, "make", "(I[I[III)V"⟩
abbrev cX0_setPrices : ByteArray := prog_2_method_3_code
def yX0_setPrices : MethodName := ⟨RX0, "setPrices", "(I[II)V"⟩
def RX1 : String := "RentDivision$Choice"
def TX1 : u_T := fun k => match k with
  | 0 => ("RentDivision$Choice", "people", "I", false)
  | 1 => ("RentDivision$Choice", "roomCount", "I", false)
  | 2 => ("RentDivision$Choice", "persons", "[I", true)
  | 3 => ("RentDivision$Choice", "worths", "[[I", true)
  | 4 => ("RentDivision$Choice", "rooms", "[I", true)
  | 5 => ("RentDivision$Choice", "best", "[I", true)
  | _ => ("RentDivision$Choice", "ways", "[I", true)
def tyX1 : Nat → FieldType := fun k => match k with
  | 0 => .int
  | 1 => .int
  | 2 => .array .int
  | 3 => .array (.array .int)
  | 4 => .array .int
  | 5 => .array .int
  | _ => .array .int
abbrev wsX10 : List Cond := u_ws RX1 TX1 7
theorem nmX1 : ∀ a, a < 7 → ∀ b, b < 7 → a ≠ b → (TX1 a).2.1 ≠ (TX1 b).2.1 := by decide +kernel
theorem tyX1_ok : ∀ k, k < 7 → parseFieldDescriptor (TX1 k).2.2.1 = some (tyX1 k) := by decide +kernel
abbrev cX1_init : ByteArray := prog_3_method_1_code
def yX1_init : MethodName := ⟨RX1, "<init>", "()V"⟩
abbrev cX1_take : ByteArray := prog_3_method_2_code
def yX1_take : MethodName := ⟨RX1, "take", "(LRentDivision$Flat;)V"⟩
abbrev cX1_placeOf : ByteArray := prog_3_method_3_code
def yX1_placeOf : MethodName := ⟨RX1, "placeOf", "(I)I"⟩
abbrev cX1_placeIn : ByteArray := prog_3_method_4_code
def yX1_placeIn : MethodName := ⟨RX1, "placeIn", "(I)I"⟩
abbrev cX1_worthOfRoom : ByteArray := prog_3_method_5_code
def yX1_worthOfRoom : MethodName := ⟨RX1, "worthOfRoom", "(II)I"⟩
abbrev cX1_solve : ByteArray := prog_3_method_6_code
def yX1_solve : MethodName := ⟨RX1, "solve", "()V"⟩
abbrev cX1_exists : ByteArray := prog_3_method_7_code
def yX1_exists : MethodName := ⟨RX1, "exists", "()Z"⟩
abbrev cX1_greatestSum : ByteArray := prog_3_method_8_code
def yX1_greatestSum : MethodName := ⟨RX1, "greatestSum", "()I"⟩
abbrev cX1_countGreatest : ByteArray := prog_3_method_9_code
def yX1_countGreatest : MethodName := ⟨RX1, "countGreatest", "()I"⟩
abbrev cX1_weigh : ByteArray := prog_3_method_10_code
def yX1_weigh : MethodName := ⟨RX1, "weigh", "(I)V"⟩
abbrev cX1_sumWith : ByteArray := prog_3_method_11_code
def yX1_sumWith : MethodName := ⟨RX1, "sumWith", "(III)I"⟩
abbrev cX1_lowestBest : ByteArray := prog_3_method_12_code
def yX1_lowestBest : MethodName := ⟨RX1, "lowestBest", "(II)I"⟩
def RX2 : String := "RentDivision$Flat"
def TX2 : u_T := fun k => match k with
  | 0 => ("RentDivision$Flat", "roomCount", "I", false)
  | 1 => ("RentDivision$Flat", "personCount", "I", false)
  | 2 => ("RentDivision$Flat", "lease", "I", false)
  | 3 => ("RentDivision$Flat", "deposit", "I", false)
  | 4 => ("RentDivision$Flat", "arrears", "I", false)
  | 5 => ("RentDivision$Flat", "month", "I", false)
  | 6 => ("RentDivision$Flat", "plansDone", "I", false)
  | 7 => ("RentDivision$Flat", "settings", "[I", true)
  | 8 => ("RentDivision$Flat", "states", "[I", true)
  | 9 => ("RentDivision$Flat", "incomes", "[I", true)
  | 10 => ("RentDivision$Flat", "worths", "[[I", true)
  | 11 => ("RentDivision$Flat", "rooms", "[I", true)
  | 12 => ("RentDivision$Flat", "payments", "[I", true)
  | 13 => ("RentDivision$Flat", "paid", "[I", true)
  | 14 => ("RentDivision$Flat", "stakes", "[I", true)
  | _ => ("RentDivision$Flat", "monthsPaid", "[I", true)
def tyX2 : Nat → FieldType := fun k => match k with
  | 0 => .int
  | 1 => .int
  | 2 => .int
  | 3 => .int
  | 4 => .int
  | 5 => .int
  | 6 => .int
  | 7 => .array .int
  | 8 => .array .int
  | 9 => .array .int
  | 10 => .array (.array .int)
  | 11 => .array .int
  | 12 => .array .int
  | 13 => .array .int
  | 14 => .array .int
  | _ => .array .int
abbrev wsX20 : List Cond := u_ws RX2 TX2 16
theorem nmX2 : ∀ a, a < 16 → ∀ b, b < 16 → a ≠ b → (TX2 a).2.1 ≠ (TX2 b).2.1 := by decide +kernel
theorem tyX2_ok : ∀ k, k < 16 → parseFieldDescriptor (TX2 k).2.2.1 = some (tyX2 k) := by decide +kernel
abbrev cX2_init : ByteArray := prog_4_method_1_code
def yX2_init : MethodName := ⟨RX2, "<init>", "()V"⟩
abbrev cX2_empty : ByteArray := prog_4_method_2_code
def yX2_empty : MethodName := ⟨RX2, "empty", "()V"⟩
abbrev cX2_copy : ByteArray := prog_4_method_3_code
def yX2_copy : MethodName := ⟨RX2, "copy", "(LRentDivision$Flat;)V"⟩
abbrev cX2_isPerson : ByteArray := prog_4_method_4_code
def yX2_isPerson : MethodName := ⟨RX2, "isPerson", "(I)Z"⟩
abbrev cX2_isRoom : ByteArray := prog_4_method_5_code
def yX2_isRoom : MethodName := ⟨RX2, "isRoom", "(I)Z"⟩
abbrev cX2_isLiving : ByteArray := prog_4_method_6_code
def yX2_isLiving : MethodName := ⟨RX2, "isLiving", "(I)Z"⟩
abbrev cX2_countLiving : ByteArray := prog_4_method_7_code
def yX2_countLiving : MethodName := ⟨RX2, "countLiving", "()I"⟩
abbrev cX2_worth : ByteArray := prog_4_method_8_code
def yX2_worth : MethodName := ⟨RX2, "worth", "(II)I"⟩
abbrev cX2_value : ByteArray := prog_4_method_9_code
def yX2_value : MethodName := ⟨RX2, "value", "(II)I"⟩
abbrev cX2_hasRoom : ByteArray := prog_4_method_10_code
def yX2_hasRoom : MethodName := ⟨RX2, "hasRoom", "(I)Z"⟩
abbrev cX2_assign : ByteArray := prog_4_method_11_code
def yX2_assign : MethodName := ⟨RX2, "assign", "(III)V"⟩
abbrev cX2_sumOfPayments : ByteArray := prog_4_method_12_code
def yX2_sumOfPayments : MethodName := ⟨RX2, "sumOfPayments", "()I"⟩
abbrev cX2_envy : ByteArray := prog_4_method_13_code
def yX2_envy : MethodName := ⟨RX2, "envy", "(II)I"⟩
abbrev cX2_sumOfEnvy : ByteArray := prog_4_method_14_code
def yX2_sumOfEnvy : MethodName := ⟨RX2, "sumOfEnvy", "()I"⟩
abbrev cX2_doPlans : ByteArray := prog_4_method_16_code
def yX2_doPlans : MethodName := ⟨RX2, "doPlans", "(LRentDivision$Roster;)Z"⟩
abbrev cX2_collect : ByteArray := prog_4_method_17_code
def yX2_collect : MethodName := ⟨RX2, "collect", "()V"⟩
def RX3 : String := "RentDivision$History"
def TX3 : u_T := fun k => match k with
  | 0 => ("RentDivision$History", "kept", "[LRentDivision$Flat;", true)
  | 1 => ("RentDivision$History", "next", "I", false)
  | _ => ("RentDivision$History", "count", "I", false)
def tyX3 : Nat → FieldType := fun k => match k with
  | 0 => .array (.object "RentDivision$Flat")
  | 1 => .int
  | _ => .int
abbrev wsX30 : List Cond := u_ws RX3 TX3 3
theorem nmX3 : ∀ a, a < 3 → ∀ b, b < 3 → a ≠ b → (TX3 a).2.1 ≠ (TX3 b).2.1 := by decide +kernel
theorem tyX3_ok : ∀ k, k < 3 → parseFieldDescriptor (TX3 k).2.2.1 = some (tyX3 k) := by decide +kernel
abbrev cX3_init : ByteArray := prog_5_method_1_code
def yX3_init : MethodName := ⟨RX3, "<init>", "()V"⟩
abbrev cX3_forget : ByteArray := prog_5_method_2_code
def yX3_forget : MethodName := ⟨RX3, "forget", "()V"⟩
abbrev cX3_keep : ByteArray := prog_5_method_3_code
def yX3_keep : MethodName := ⟨RX3, "keep", "(LRentDivision$Flat;)V"⟩
def RX4 : String := "RentDivision$Loader"
def TX4 : u_T := fun k => match k with
  | 0 => ("RentDivision$Loader", "tokens", "LRentDivision$Tokens;", true)
  | 1 => ("RentDivision$Loader", "flat", "LRentDivision$Flat;", true)
  | 2 => ("RentDivision$Loader", "roster", "LRentDivision$Roster;", true)
  | 3 => ("RentDivision$Loader", "leaseGiven", "Z", false)
  | 4 => ("RentDivision$Loader", "depositGiven", "Z", false)
  | 5 => ("RentDivision$Loader", "settingsGiven", "[Z", true)
  | 6 => ("RentDivision$Loader", "name", "I", false)
  | 7 => ("RentDivision$Loader", "number", "I", false)
  | 8 => ("RentDivision$Loader", "error", "I", false)
  | _ => ("RentDivision$Loader", "errorPlace", "I", false)
def tyX4 : Nat → FieldType := fun k => match k with
  | 0 => .object "RentDivision$Tokens"
  | 1 => .object "RentDivision$Flat"
  | 2 => .object "RentDivision$Roster"
  | 3 => .boolean
  | 4 => .boolean
  | 5 => .array .boolean
  | 6 => .int
  | 7 => .int
  | 8 => .int
  | _ => .int
abbrev wsX40 : List Cond := u_ws RX4 TX4 10
theorem nmX4 : ∀ a, a < 10 → ∀ b, b < 10 → a ≠ b → (TX4 a).2.1 ≠ (TX4 b).2.1 := by decide +kernel
theorem tyX4_ok : ∀ k, k < 10 → parseFieldDescriptor (TX4 k).2.2.1 = some (tyX4 k) := by decide +kernel
abbrev cX4_init : ByteArray := prog_6_method_1_code
def yX4_init : MethodName := ⟨RX4, "<init>", "()V"⟩
abbrev cX4_read : ByteArray := prog_6_method_2_code
def yX4_read : MethodName := ⟨RX4, "read", "(I)I"⟩
abbrev cX4_fail : ByteArray := prog_6_method_3_code
def yX4_fail : MethodName := ⟨RX4, "fail", "(I)Z"⟩
abbrev cX4_readStatement : ByteArray := prog_6_method_4_code
def yX4_readStatement : MethodName := ⟨RX4, "readStatement", "()Z"⟩
abbrev cX4_readSemicolon : ByteArray := prog_6_method_5_code
def yX4_readSemicolon : MethodName := ⟨RX4, "readSemicolon", "()Z"⟩
abbrev cX4_readNumber : ByteArray := prog_6_method_6_code
def yX4_readNumber : MethodName := ⟨RX4, "readNumber", "(I)Z"⟩
abbrev cX4_readName : ByteArray := prog_6_method_7_code
def yX4_readName : MethodName := ⟨RX4, "readName", "()Z"⟩
abbrev cX4_readRoom : ByteArray := prog_6_method_8_code
def yX4_readRoom : MethodName := ⟨RX4, "readRoom", "()Z"⟩
abbrev cX4_readPerson : ByteArray := prog_6_method_9_code
def yX4_readPerson : MethodName := ⟨RX4, "readPerson", "()Z"⟩
abbrev cX4_readAmount : ByteArray := prog_6_method_10_code
def yX4_readAmount : MethodName := ⟨RX4, "readAmount", "(Z)Z"⟩
abbrev cX4_readLease : ByteArray := prog_6_method_11_code
def yX4_readLease : MethodName := ⟨RX4, "readLease", "()Z"⟩
abbrev cX4_readDeposit : ByteArray := prog_6_method_12_code
def yX4_readDeposit : MethodName := ⟨RX4, "readDeposit", "()Z"⟩
abbrev cX4_readPlan : ByteArray := prog_6_method_13_code
def yX4_readPlan : MethodName := ⟨RX4, "readPlan", "()Z"⟩
abbrev cX4_readSetting : ByteArray := prog_6_method_14_code
def yX4_readSetting : MethodName := ⟨RX4, "readSetting", "()Z"⟩
abbrev cX4_settingHere : ByteArray := prog_6_method_15_code
def yX4_settingHere : MethodName := ⟨RX4, "settingHere", "()I"⟩
abbrev cX4_readMethod : ByteArray := prog_6_method_16_code
def yX4_readMethod : MethodName := ⟨RX4, "readMethod", "()Z"⟩
def RX5 : String := "RentDivision$Page"
def TX5 : u_T := fun k => match k with
  | 0 => ("RentDivision$Page", "signs", "[C", true)
  | _ => ("RentDivision$Page", "length", "I", false)
def tyX5 : Nat → FieldType := fun k => match k with
  | 0 => .array .char
  | _ => .int
abbrev wsX50 : List Cond := u_ws RX5 TX5 2
theorem nmX5 : ∀ a, a < 2 → ∀ b, b < 2 → a ≠ b → (TX5 a).2.1 ≠ (TX5 b).2.1 := by decide +kernel
theorem tyX5_ok : ∀ k, k < 2 → parseFieldDescriptor (TX5 k).2.2.1 = some (tyX5 k) := by decide +kernel
abbrev cX5_init : ByteArray := prog_7_method_1_code
def yX5_init : MethodName := ⟨RX5, "<init>", "()V"⟩
def RX6 : String := "RentDivision$Proposal"
def TX6 : u_T := fun k => match k with
  | 0 => ("RentDivision$Proposal", "choice", "LRentDivision$Choice;", true)
  | 1 => ("RentDivision$Proposal", "lows", "[I", true)
  | 2 => ("RentDivision$Proposal", "highs", "[I", true)
  | 3 => ("RentDivision$Proposal", "bases", "[I", true)
  | 4 => ("RentDivision$Proposal", "incomes", "[I", true)
  | 5 => ("RentDivision$Proposal", "lease", "I", false)
  | 6 => ("RentDivision$Proposal", "bill", "LRentDivision$Bill;", true)
  | _ => ("RentDivision$Proposal", "trialBill", "LRentDivision$Bill;", true)
def tyX6 : Nat → FieldType := fun k => match k with
  | 0 => .object "RentDivision$Choice"
  | 1 => .array .int
  | 2 => .array .int
  | 3 => .array .int
  | 4 => .array .int
  | 5 => .int
  | 6 => .object "RentDivision$Bill"
  | _ => .object "RentDivision$Bill"
abbrev wsX60 : List Cond := u_ws RX6 TX6 8
theorem nmX6 : ∀ a, a < 8 → ∀ b, b < 8 → a ≠ b → (TX6 a).2.1 ≠ (TX6 b).2.1 := by decide +kernel
theorem tyX6_ok : ∀ k, k < 8 → parseFieldDescriptor (TX6 k).2.2.1 = some (tyX6 k) := by decide +kernel
abbrev cX6_init : ByteArray := prog_8_method_1_code
def yX6_init : MethodName := ⟨RX6, "<init>", "()V"⟩
abbrev cX6_make : ByteArray := prog_8_method_2_code
def yX6_make : MethodName := ⟨RX6, "make", "(LRentDivision$Flat;)V"⟩
abbrev cX6_exists : ByteArray := prog_8_method_3_code
def yX6_exists : MethodName := ⟨RX6, "exists", "()Z"⟩
abbrev cX6_gain : ByteArray := prog_8_method_4_code
def yX6_gain : MethodName := ⟨RX6, "gain", "(II)I"⟩
abbrev cX6_findLows : ByteArray := prog_8_method_5_code
def yX6_findLows : MethodName := ⟨RX6, "findLows", "()V"⟩
abbrev cX6_raiseLows : ByteArray := prog_8_method_6_code
def yX6_raiseLows : MethodName := ⟨RX6, "raiseLows", "()Z"⟩
abbrev cX6_findHighs : ByteArray := prog_8_method_7_code
def yX6_findHighs : MethodName := ⟨RX6, "findHighs", "()V"⟩
abbrev cX6_lowerHighs : ByteArray := prog_8_method_8_code
def yX6_lowerHighs : MethodName := ⟨RX6, "lowerHighs", "()Z"⟩
abbrev cX6_setBases : ByteArray := prog_8_method_9_code
def yX6_setBases : MethodName := ⟨RX6, "setBases", "(I)V"⟩
abbrev cX6_placeOfPerson : ByteArray := prog_8_method_10_code
def yX6_placeOfPerson : MethodName := ⟨RX6, "placeOfPerson", "(I)I"⟩
abbrev cX6_placeOfRoom : ByteArray := prog_8_method_11_code
def yX6_placeOfRoom : MethodName := ⟨RX6, "placeOfRoom", "(I)I"⟩
abbrev cX6_roomFor : ByteArray := prog_8_method_12_code
def yX6_roomFor : MethodName := ⟨RX6, "roomFor", "(I)I"⟩
abbrev cX6_paymentFor : ByteArray := prog_8_method_13_code
def yX6_paymentFor : MethodName := ⟨RX6, "paymentFor", "(I)I"⟩
abbrev cX6_gainOver : ByteArray := prog_8_method_14_code
def yX6_gainOver : MethodName := ⟨RX6, "gainOver", "(I)I"⟩
def RX7 : String := "RentDivision$Roster"
def TX7 : u_T := fun k => match k with
  | 0 => ("RentDivision$Roster", "roomNames", "[I", true)
  | 1 => ("RentDivision$Roster", "personNames", "[I", true)
  | 2 => ("RentDivision$Roster", "planPersons", "[I", true)
  | 3 => ("RentDivision$Roster", "planMonths", "[I", true)
  | 4 => ("RentDivision$Roster", "planIncomes", "[I", true)
  | _ => ("RentDivision$Roster", "planCount", "I", false)
def tyX7 : Nat → FieldType := fun k => match k with
  | 0 => .array .int
  | 1 => .array .int
  | 2 => .array .int
  | 3 => .array .int
  | 4 => .array .int
  | _ => .int
abbrev wsX70 : List Cond := u_ws RX7 TX7 6
theorem nmX7 : ∀ a, a < 6 → ∀ b, b < 6 → a ≠ b → (TX7 a).2.1 ≠ (TX7 b).2.1 := by decide +kernel
theorem tyX7_ok : ∀ k, k < 6 → parseFieldDescriptor (TX7 k).2.2.1 = some (tyX7 k) := by decide +kernel
abbrev cX7_init : ByteArray := prog_9_method_1_code
def yX7_init : MethodName := ⟨RX7, "<init>", "()V"⟩
abbrev cX7_copy : ByteArray := prog_9_method_2_code
def yX7_copy : MethodName := ⟨RX7, "copy", "(LRentDivision$Roster;)V"⟩
abbrev cX7_nameRoom : ByteArray := prog_9_method_3_code
def yX7_nameRoom : MethodName := ⟨RX7, "nameRoom", "(II)V"⟩
abbrev cX7_namePerson : ByteArray := prog_9_method_4_code
def yX7_namePerson : MethodName := ⟨RX7, "namePerson", "(II)V"⟩
abbrev cX7_findRoom : ByteArray := prog_9_method_7_code
def yX7_findRoom : MethodName := ⟨RX7, "findRoom", "(II)I"⟩
abbrev cX7_findPerson : ByteArray := prog_9_method_8_code
def yX7_findPerson : MethodName := ⟨RX7, "findPerson", "(II)I"⟩
abbrev cX7_addPlan : ByteArray := prog_9_method_9_code
def yX7_addPlan : MethodName := ⟨RX7, "addPlan", "(III)V"⟩
abbrev cX7_hasPlan : ByteArray := prog_9_method_10_code
def yX7_hasPlan : MethodName := ⟨RX7, "hasPlan", "(I)Z"⟩
def RX8 : String := "RentDivision$Settlement"
def TX8 : u_T := fun k => match k with
  | 0 => ("RentDivision$Settlement", "targets", "[I", true)
  | 1 => ("RentDivision$Settlement", "persons", "[I", true)
  | 2 => ("RentDivision$Settlement", "weights", "[I", true)
  | 3 => ("RentDivision$Settlement", "parts", "[I", true)
  | 4 => ("RentDivision$Settlement", "due", "[I", true)
  | 5 => ("RentDivision$Settlement", "transfers", "[[I", true)
  | 6 => ("RentDivision$Settlement", "count", "I", false)
  | _ => ("RentDivision$Settlement", "split", "LRentDivision$Split;", true)
def tyX8 : Nat → FieldType := fun k => match k with
  | 0 => .array .int
  | 1 => .array .int
  | 2 => .array .int
  | 3 => .array .int
  | 4 => .array .int
  | 5 => .array (.array .int)
  | 6 => .int
  | _ => .object "RentDivision$Split"
abbrev wsX80 : List Cond := u_ws RX8 TX8 8
theorem nmX8 : ∀ a, a < 8 → ∀ b, b < 8 → a ≠ b → (TX8 a).2.1 ≠ (TX8 b).2.1 := by decide +kernel
theorem tyX8_ok : ∀ k, k < 8 → parseFieldDescriptor (TX8 k).2.2.1 = some (tyX8 k) := by decide +kernel
abbrev cX8_init : ByteArray := prog_10_method_1_code
def yX8_init : MethodName := ⟨RX8, "<init>", "()V"⟩
abbrev cX8_aim : ByteArray := prog_10_method_2_code
def yX8_aim : MethodName := ⟨RX8, "aim", "(LRentDivision$Flat;)V"⟩
abbrev cX8_make : ByteArray := prog_10_method_3_code
def yX8_make : MethodName := ⟨RX8, "make", "(LRentDivision$Flat;)V"⟩
abbrev cX8_payNext : ByteArray := prog_10_method_4_code
def yX8_payNext : MethodName := ⟨RX8, "payNext", "()Z"⟩
abbrev cX8_number : ByteArray := prog_10_method_5_code
def yX8_number : MethodName := ⟨RX8, "number", "(II)I"⟩
def RX9 : String := "RentDivision$Split"
def TX9 : u_T := fun k => match k with
  | _ => ("RentDivision$Split", "remainders", "[J", true)
def tyX9 : Nat → FieldType := fun k => match k with
  | _ => .array .long
abbrev wsX90 : List Cond := u_ws RX9 TX9 1
theorem nmX9 : ∀ a, a < 1 → ∀ b, b < 1 → a ≠ b → (TX9 a).2.1 ≠ (TX9 b).2.1 := by decide +kernel
theorem tyX9_ok : ∀ k, k < 1 → parseFieldDescriptor (TX9 k).2.2.1 = some (tyX9 k) := by decide +kernel
abbrev cX9_init : ByteArray := prog_11_method_1_code
def yX9_init : MethodName := ⟨RX9, "<init>", "()V"⟩
abbrev cX9_byWeights : ByteArray := prog_11_method_2_code
def yX9_byWeights : MethodName := ⟨RX9, "byWeights", "(I[II[I)V"⟩
abbrev cX9_toUnits : ByteArray := prog_11_method_3_code
def yX9_toUnits : MethodName := ⟨RX9, "toUnits", "(I[II[I)V"⟩
abbrev cX9_giveLeft : ByteArray := prog_11_method_4_code
def yX9_giveLeft : MethodName := ⟨RX9, "giveLeft", "(II[I)V"⟩
def RX10 : String := "RentDivision$Tokens"
def TX10 : u_T := fun k => match k with
  | 0 => ("RentDivision$Tokens", "text", "[B", true)
  | 1 => ("RentDivision$Tokens", "held", "I", false)
  | 2 => ("RentDivision$Tokens", "length", "I", false)
  | 3 => ("RentDivision$Tokens", "start", "I", false)
  | 4 => ("RentDivision$Tokens", "end", "I", false)
  | _ => ("RentDivision$Tokens", "kind", "I", false)
def tyX10 : Nat → FieldType := fun k => match k with
  | 0 => .array .byte
  | 1 => .int
  | 2 => .int
  | 3 => .int
  | 4 => .int
  | _ => .int
abbrev wsX100 : List Cond := u_ws RX10 TX10 6
theorem nmX10 : ∀ a, a < 6 → ∀ b, b < 6 → a ≠ b → (TX10 a).2.1 ≠ (TX10 b).2.1 := by decide +kernel
theorem tyX10_ok : ∀ k, k < 6 → parseFieldDescriptor (TX10 k).2.2.1 = some (tyX10 k) := by decide +kernel
abbrev cX10_init : ByteArray := prog_12_method_1_code
def yX10_init : MethodName := ⟨RX10, "<init>", "()V"⟩
abbrev cX10_append : ByteArray := prog_12_method_2_code
def yX10_append : MethodName := ⟨RX10, "append", "(I)V"⟩
abbrev cX10_forget : ByteArray := prog_12_method_3_code
def yX10_forget : MethodName := ⟨RX10, "forget", "()V"⟩
abbrev cX10_open : ByteArray := prog_12_method_4_code
def yX10_open : MethodName := ⟨RX10, "open", "(I)V"⟩
abbrev cX10_advance : ByteArray := prog_12_method_5_code
def yX10_advance : MethodName := ⟨RX10, "advance", "()V"⟩
abbrev cX10_kindAt : ByteArray := prog_12_method_6_code
def yX10_kindAt : MethodName := ⟨RX10, "kindAt", "(I)I"⟩
abbrev cX10_isWord : ByteArray := prog_12_method_7_code
def yX10_isWord : MethodName := ⟨RX10, "isWord", "(Ljava/lang/String;)Z"⟩
abbrev cX10_name : ByteArray := prog_12_method_8_code
def yX10_name : MethodName := ⟨RX10, "name", "()I"⟩
abbrev cX10_number : ByteArray := prog_12_method_9_code
def yX10_number : MethodName := ⟨RX10, "number", "()I"⟩
def RX11 : String := "RentDivision"
def TX11 : u_T := fun k => match k with
  | 0 => ("RentDivision", "loader", "LRentDivision$Loader;", true)
  | 1 => ("RentDivision", "roster", "LRentDivision$Roster;", true)
  | 2 => ("RentDivision", "flat", "LRentDivision$Flat;", true)
  | 3 => ("RentDivision", "history", "LRentDivision$History;", true)
  | 4 => ("RentDivision", "proposal", "LRentDivision$Proposal;", true)
  | 5 => ("RentDivision", "proposalStands", "Z", false)
  | 6 => ("RentDivision", "trialChoice", "LRentDivision$Choice;", true)
  | 7 => ("RentDivision", "settlement", "LRentDivision$Settlement;", true)
  | _ => ("RentDivision", "page", "LRentDivision$Page;", true)
def tyX11 : Nat → FieldType := fun k => match k with
  | 0 => .object "RentDivision$Loader"
  | 1 => .object "RentDivision$Roster"
  | 2 => .object "RentDivision$Flat"
  | 3 => .object "RentDivision$History"
  | 4 => .object "RentDivision$Proposal"
  | 5 => .boolean
  | 6 => .object "RentDivision$Choice"
  | 7 => .object "RentDivision$Settlement"
  | _ => .object "RentDivision$Page"
abbrev wsX110 : List Cond := u_ws RX11 TX11 9
theorem nmX11 : ∀ a, a < 9 → ∀ b, b < 9 → a ≠ b → (TX11 a).2.1 ≠ (TX11 b).2.1 := by decide +kernel
theorem tyX11_ok : ∀ k, k < 9 → parseFieldDescriptor (TX11 k).2.2.1 = some (tyX11 k) := by decide +kernel
abbrev cX11_init : ByteArray := prog_1_method_1_code
def yX11_init : MethodName := ⟨RX11, "<init>", "()V"⟩
abbrev cX11_feed : ByteArray := prog_1_method_2_code
def yX11_feed : MethodName := ⟨RX11, "feed", "(IIIII)I"⟩
abbrev cX11_load : ByteArray := prog_1_method_3_code
def yX11_load : MethodName := ⟨RX11, "load", "(I)I"⟩
abbrev cX11_month : ByteArray := prog_1_method_9_code
def yX11_month : MethodName := ⟨RX11, "month", "()I"⟩
abbrev cX11_stateOf : ByteArray := prog_1_method_14_code
def yX11_stateOf : MethodName := ⟨RX11, "stateOf", "(I)I"⟩
abbrev cX11_incomeOf : ByteArray := prog_1_method_15_code
def yX11_incomeOf : MethodName := ⟨RX11, "incomeOf", "(I)I"⟩
abbrev cX11_valueOf : ByteArray := prog_1_method_16_code
def yX11_valueOf : MethodName := ⟨RX11, "valueOf", "(II)I"⟩
abbrev cX11_refuses : ByteArray := prog_1_method_17_code
def yX11_refuses : MethodName := ⟨RX11, "refuses", "(II)Z"⟩
abbrev cX11_livingCount : ByteArray := prog_1_method_18_code
def yX11_livingCount : MethodName := ⟨RX11, "livingCount", "()I"⟩
abbrev cX11_planCount : ByteArray := prog_1_method_19_code
def yX11_planCount : MethodName := ⟨RX11, "planCount", "()I"⟩
abbrev cX11_hasProposal : ByteArray := prog_1_method_21_code
def yX11_hasProposal : MethodName := ⟨RX11, "hasProposal", "()Z"⟩
abbrev cX11_proposedRoom : ByteArray := prog_1_method_22_code
def yX11_proposedRoom : MethodName := ⟨RX11, "proposedRoom", "(I)I"⟩
abbrev cX11_proposedValue : ByteArray := prog_1_method_23_code
def yX11_proposedValue : MethodName := ⟨RX11, "proposedValue", "()I"⟩
abbrev cX11_choiceCount : ByteArray := prog_1_method_24_code
def yX11_choiceCount : MethodName := ⟨RX11, "choiceCount", "()I"⟩
abbrev cX11_extreme : ByteArray := prog_1_method_25_code
def yX11_extreme : MethodName := ⟨RX11, "extreme", "(IZ)I"⟩
abbrev cX11_price : ByteArray := prog_1_method_26_code
def yX11_price : MethodName := ⟨RX11, "price", "(I)I"⟩
abbrev cX11_proposedPayment : ByteArray := prog_1_method_29_code
def yX11_proposedPayment : MethodName := ⟨RX11, "proposedPayment", "(I)I"⟩
abbrev cX11_surplus : ByteArray := prog_1_method_30_code
def yX11_surplus : MethodName := ⟨RX11, "surplus", "(I)I"⟩
abbrev cX11_currentProposal : ByteArray := prog_1_method_35_code
def yX11_currentProposal : MethodName := ⟨RX11, "currentProposal", "()LRentDivision$Proposal;"⟩
abbrev cX11_roomOf : ByteArray := prog_1_method_36_code
def yX11_roomOf : MethodName := ⟨RX11, "roomOf", "(I)I"⟩
abbrev cX11_payment : ByteArray := prog_1_method_38_code
def yX11_payment : MethodName := ⟨RX11, "payment", "(I)I"⟩
abbrev cX11_envyOf : ByteArray := prog_1_method_40_code
def yX11_envyOf : MethodName := ⟨RX11, "envyOf", "(II)I"⟩
abbrev cX11_totalEnvy : ByteArray := prog_1_method_41_code
def yX11_totalEnvy : MethodName := ⟨RX11, "totalEnvy", "()I"⟩
abbrev cX11_paid : ByteArray := prog_1_method_47_code
def yX11_paid : MethodName := ⟨RX11, "paid", "(II)I"⟩
abbrev cX11_arrears : ByteArray := prog_1_method_48_code
def yX11_arrears : MethodName := ⟨RX11, "arrears", "()I"⟩
abbrev cX11_target : ByteArray := prog_1_method_49_code
def yX11_target : MethodName := ⟨RX11, "target", "(I)I"⟩
abbrev cX11_transferCount : ByteArray := prog_1_method_50_code
def yX11_transferCount : MethodName := ⟨RX11, "transferCount", "()I"⟩
abbrev cX11_transfer : ByteArray := prog_1_method_51_code
def yX11_transfer : MethodName := ⟨RX11, "transfer", "(II)I"⟩
abbrev cX11_moveIn : ByteArray := prog_1_method_52_code
def yX11_moveIn : MethodName := ⟨RX11, "moveIn", "(I)I"⟩
abbrev cX11_moveOut : ByteArray := prog_1_method_53_code
def yX11_moveOut : MethodName := ⟨RX11, "moveOut", "(I)I"⟩
abbrev cX11_setValue : ByteArray := prog_1_method_54_code
def yX11_setValue : MethodName := ⟨RX11, "setValue", "(III)I"⟩
abbrev cX11_setRefusal : ByteArray := prog_1_method_55_code
def yX11_setRefusal : MethodName := ⟨RX11, "setRefusal", "(IIZ)I"⟩
abbrev cX11_setLease : ByteArray := prog_1_method_57_code
def yX11_setLease : MethodName := ⟨RX11, "setLease", "(I)I"⟩
abbrev cX11_setSetting : ByteArray := prog_1_method_59_code
def yX11_setSetting : MethodName := ⟨RX11, "setSetting", "(II)I"⟩
abbrev cX11_divide : ByteArray := prog_1_method_60_code
def yX11_divide : MethodName := ⟨RX11, "divide", "()I"⟩
abbrev cX11_agreeOn : ByteArray := prog_1_method_61_code
def yX11_agreeOn : MethodName := ⟨RX11, "agreeOn", "(LRentDivision$Proposal;)I"⟩
abbrev cX11_swapRooms : ByteArray := prog_1_method_62_code
def yX11_swapRooms : MethodName := ⟨RX11, "swapRooms", "(II)I"⟩
abbrev cX11_passMonths : ByteArray := prog_1_method_63_code
def yX11_passMonths : MethodName := ⟨RX11, "passMonths", "(I)I"⟩
abbrev cX11_passMonth : ByteArray := prog_1_method_64_code
def yX11_passMonth : MethodName := ⟨RX11, "passMonth", "()V"⟩
abbrev cX11_settle : ByteArray := prog_1_method_65_code
def yX11_settle : MethodName := ⟨RX11, "settle", "()I"⟩
abbrev cX11_startChange : ByteArray := prog_1_method_67_code
def yX11_startChange : MethodName := ⟨RX11, "startChange", "()V"⟩
abbrev cX11_checkPerson : ByteArray := prog_1_method_70_code
def yX11_checkPerson : MethodName := ⟨RX11, "checkPerson", "(I)V"⟩
abbrev cX11_checkRoom : ByteArray := prog_1_method_71_code
def yX11_checkRoom : MethodName := ⟨RX11, "checkRoom", "(I)V"⟩
abbrev cX11_isSetting : ByteArray := prog_1_method_72_code
def yX11_isSetting : MethodName := ⟨RX11, "isSetting", "(I)Z"⟩
abbrev cX11_mostOfSetting : ByteArray := prog_1_method_73_code
def yX11_mostOfSetting : MethodName := ⟨RX11, "mostOfSetting", "(I)I"⟩
abbrev cX11_isMoney : ByteArray := prog_1_method_74_code
def yX11_isMoney : MethodName := ⟨RX11, "isMoney", "(I)Z"⟩
abbrev cX11_incomePart : ByteArray := prog_1_method_75_code
def yX11_incomePart : MethodName := ⟨RX11, "incomePart", "(II)I"⟩
def RX12 : String := "RentDivisionLaw$Desk"
def TX12 : u_T := fun k => match k with
  | 0 => ("RentDivisionLaw$Desk", "o", "LRentDivision;", true)
  | 1 => ("RentDivisionLaw$Desk", "rooms", "I", true)
  | 2 => ("RentDivisionLaw$Desk", "people", "I", true)
  | 3 => ("RentDivisionLaw$Desk", "state", "[I", true)
  | 4 => ("RentDivisionLaw$Desk", "income", "[I", true)
  | 5 => ("RentDivisionLaw$Desk", "value", "[[I", true)
  | 6 => ("RentDivisionLaw$Desk", "refused", "[[Z", true)
  | 7 => ("RentDivisionLaw$Desk", "room", "[I", true)
  | 8 => ("RentDivisionLaw$Desk", "payment", "[I", true)
  | 9 => ("RentDivisionLaw$Desk", "paid", "[J", true)
  | 10 => ("RentDivisionLaw$Desk", "stake", "[I", true)
  | 11 => ("RentDivisionLaw$Desk", "plans", "Ljava/util/ArrayList;", true)
  | 12 => ("RentDivisionLaw$Desk", "lease", "I", false)
  | 13 => ("RentDivisionLaw$Desk", "deposit", "I", false)
  | 14 => ("RentDivisionLaw$Desk", "method", "I", false)
  | 15 => ("RentDivisionLaw$Desk", "share", "I", false)
  | 16 => ("RentDivisionLaw$Desk", "auto", "I", false)
  | 17 => ("RentDivisionLaw$Desk", "month", "I", false)
  | 18 => ("RentDivisionLaw$Desk", "arrears", "J", false)
  | 19 => ("RentDivisionLaw$Desk", "isRead", "Z", false)
  | 20 => ("RentDivisionLaw$Desk", "choice", "[I", false)
  | 21 => ("RentDivisionLaw$Desk", "best", "[I", false)
  | 22 => ("RentDivisionLaw$Desk", "sum", "I", false)
  | 23 => ("RentDivisionLaw$Desk", "choices", "I", false)
  | _ => ("RentDivisionLaw$Desk", "asked", "[I", false)
def tyX12 : Nat → FieldType := fun k => match k with
  | 0 => .object "RentDivision"
  | 1 => .int
  | 2 => .int
  | 3 => .array .int
  | 4 => .array .int
  | 5 => .array (.array .int)
  | 6 => .array (.array .boolean)
  | 7 => .array .int
  | 8 => .array .int
  | 9 => .array .long
  | 10 => .array .int
  | 11 => .object "java/util/ArrayList"
  | 12 => .int
  | 13 => .int
  | 14 => .int
  | 15 => .int
  | 16 => .int
  | 17 => .int
  | 18 => .long
  | 19 => .boolean
  | 20 => .array .int
  | 21 => .array .int
  | 22 => .int
  | 23 => .int
  | _ => .array .int
abbrev wsX120 : List Cond := u_ws RX12 TX12 25
theorem nmX12 : ∀ a, a < 25 → ∀ b, b < 25 → a ≠ b → (TX12 a).2.1 ≠ (TX12 b).2.1 := by decide +kernel
theorem tyX12_ok : ∀ k, k < 25 → parseFieldDescriptor (TX12 k).2.2.1 = some (tyX12 k) := by decide +kernel
abbrev cX12_init : ByteArray := prog_14_method_1_code
def yX12_init : MethodName := ⟨RX12, "<init>", "([I)V"⟩
abbrev cX12_living : ByteArray := prog_14_method_2_code
def yX12_living : MethodName := ⟨RX12, "living", "()I"⟩
abbrev cX12_choose : ByteArray := prog_14_method_3_code
def yX12_choose : MethodName := ⟨RX12, "choose", "(III)V"⟩
abbrev cX12_isLower : ByteArray := prog_14_method_4_code
def yX12_isLower : MethodName := ⟨RX12, "isLower", "()Z"⟩
abbrev cX12_proposes : ByteArray := prog_14_method_5_code
def yX12_proposes : MethodName := ⟨RX12, "proposes", "()Z"⟩
abbrev cX12_gap : ByteArray := prog_14_method_6_code
def yX12_gap : MethodName := ⟨RX12, "gap", "(II)I"⟩
abbrev cX12_extremes : ByteArray := prog_14_method_7_code
def yX12_extremes : MethodName := ⟨RX12, "extremes", "(Z)[I"⟩
abbrev cX12_rest : ByteArray := prog_14_method_8_code
def yX12_rest : MethodName := ⟨RX12, "rest", "([I[J[ZI)V"⟩
abbrev cX12_split : ByteArray := prog_14_method_9_code
def yX12_split : MethodName := ⟨RX12, "split", "(I[J[Z)[I"⟩
abbrev cX12_livers : ByteArray := prog_14_method_10_code
def yX12_livers : MethodName := ⟨RX12, "livers", "()[Z"⟩
abbrev cX12_prices : ByteArray := prog_14_method_11_code
def yX12_prices : MethodName := ⟨RX12, "prices", "()[I"⟩
abbrev cX12_payments : ByteArray := prog_14_method_12_code
def yX12_payments : MethodName := ⟨RX12, "payments", "()[I"⟩
abbrev cX12_isProposed : ByteArray := prog_14_method_13_code
def yX12_isProposed : MethodName := ⟨RX12, "isProposed", "()Z"⟩
abbrev cX12_envy : ByteArray := prog_14_method_14_code
def yX12_envy : MethodName := ⟨RX12, "envy", "(II)I"⟩
abbrev cX12_allEnvy : ByteArray := prog_14_method_15_code
def yX12_allEnvy : MethodName := ⟨RX12, "allEnvy", "()I"⟩
abbrev cX12_isSame : ByteArray := prog_14_method_16_code
def yX12_isSame : MethodName := ⟨RX12, "isSame", "()Z"⟩
abbrev cX12_agree : ByteArray := prog_14_method_17_code
def yX12_agree : MethodName := ⟨RX12, "agree", "()I"⟩
abbrev cX12_pass : ByteArray := prog_14_method_18_code
def yX12_pass : MethodName := ⟨RX12, "pass", "()V"⟩
abbrev cX12_settles : ByteArray := prog_14_method_19_code
def yX12_settles : MethodName := ⟨RX12, "settles", "()Z"⟩
abbrev cX12_does : ByteArray := prog_14_method_20_code
def yX12_does : MethodName := ⟨RX12, "does", "(I)Z"⟩
def RJx145de : String := "java/io/Serializable"
def TJx145de : u_T := fun k => match k with
  | _ => ("", "", "", false)
def tyJx145de : Nat → FieldType := fun k => match k with
  | _ => .int
abbrev wsJx145de0 : List Cond := u_ws RJx145de TJx145de 0
theorem nmJx145de : ∀ a, a < 0 → ∀ b, b < 0 → a ≠ b → (TJx145de a).2.1 ≠ (TJx145de b).2.1 := by decide +kernel
theorem tyJx145de_ok : ∀ k, k < 0 → parseFieldDescriptor (TJx145de k).2.2.1 = some (tyJx145de k) := by decide +kernel
def RJ5 : String := "java/lang/AbstractStringBuilder"
def TJ5 : u_T := fun k => match k with
  | _ => ("", "", "", false)
def tyJ5 : Nat → FieldType := fun k => match k with
  | _ => .int
abbrev wsJ50 : List Cond := u_ws RJ5 TJ5 0
theorem nmJ5 : ∀ a, a < 0 → ∀ b, b < 0 → a ≠ b → (TJ5 a).2.1 ≠ (TJ5 b).2.1 := by decide +kernel
theorem tyJ5_ok : ∀ k, k < 0 → parseFieldDescriptor (TJ5 k).2.2.1 = some (tyJ5 k) := by decide +kernel
abbrev cJ5_init_d00df : ByteArray := prog_17_method_2_code
def yJ5_init_d00df : MethodName := ⟨RJ5, "<init>", "(I)V"⟩
abbrev cJ5_length_8abf5 : ByteArray := prog_17_method_6_code
def yJ5_length_8abf5 : MethodName := ⟨RJ5, "length", "()I"⟩
abbrev cJ5_ensureCapacityInternal_d00df : ByteArray := prog_17_method_9_code
def yJ5_ensureCapacityInternal_d00df : MethodName := ⟨RJ5, "ensureCapacityInternal", "(I)V"⟩
abbrev cJ5_newCapacity_0f7a4 : ByteArray := prog_17_method_10_code
def yJ5_newCapacity_0f7a4 : MethodName := ⟨RJ5, "newCapacity", "(I)I"⟩
abbrev cJ5_inflate_da8c8 : ByteArray := prog_17_method_11_code
def yJ5_inflate_da8c8 : MethodName := ⟨RJ5, "inflate", "()V"⟩
abbrev cJ5_append_cf1ce : ByteArray := prog_17_method_22_code
def yJ5_append_cf1ce : MethodName := ⟨RJ5, "append", "(Ljava/lang/String;)Ljava/lang/AbstractStringBuilder;"⟩
abbrev cJ5_appendNull_278bc : ByteArray := prog_17_method_26_code
def yJ5_appendNull_278bc : MethodName := ⟨RJ5, "appendNull", "()Ljava/lang/AbstractStringBuilder;"⟩
abbrev cJ5_append_3fe6f : ByteArray := prog_17_method_31_code
def yJ5_append_3fe6f : MethodName := ⟨RJ5, "append", "(C)Ljava/lang/AbstractStringBuilder;"⟩
abbrev cJ5_append_c97b9 : ByteArray := prog_17_method_32_code
def yJ5_append_c97b9 : MethodName := ⟨RJ5, "append", "(I)Ljava/lang/AbstractStringBuilder;"⟩
abbrev cJ5_getValue_6d5f1 : ByteArray := prog_17_method_64_code
def yJ5_getValue_6d5f1 : MethodName := ⟨RJ5, "getValue", "()[B"⟩
abbrev cJ5_isLatin1_aae02 : ByteArray := prog_17_method_68_code
def yJ5_isLatin1_aae02 : MethodName := ⟨RJ5, "isLatin1", "()Z"⟩
abbrev cJ5_inflateIfNeededFor_a7421 : ByteArray := prog_17_method_71_code
def yJ5_inflateIfNeededFor_a7421 : MethodName := ⟨RJ5, "inflateIfNeededFor", "(Ljava/lang/String;)V"⟩
abbrev cJ5_putStringAt_47b60 : ByteArray := prog_17_method_73_code
def yJ5_putStringAt_47b60 : MethodName := ⟨RJ5, "putStringAt", "(ILjava/lang/String;)V"⟩
def RJx2cfe8 : String := "java/lang/Appendable"
def TJx2cfe8 : u_T := fun k => match k with
  | _ => ("", "", "", false)
def tyJx2cfe8 : Nat → FieldType := fun k => match k with
  | _ => .int
abbrev wsJx2cfe80 : List Cond := u_ws RJx2cfe8 TJx2cfe8 0
theorem nmJx2cfe8 : ∀ a, a < 0 → ∀ b, b < 0 → a ≠ b → (TJx2cfe8 a).2.1 ≠ (TJx2cfe8 b).2.1 := by decide +kernel
theorem tyJx2cfe8_ok : ∀ k, k < 0 → parseFieldDescriptor (TJx2cfe8 k).2.2.1 = some (tyJx2cfe8 k) := by decide +kernel
def RJx9f9b0 : String := "java/lang/CharSequence"
def TJx9f9b0 : u_T := fun k => match k with
  | _ => ("", "", "", false)
def tyJx9f9b0 : Nat → FieldType := fun k => match k with
  | _ => .int
abbrev wsJx9f9b00 : List Cond := u_ws RJx9f9b0 TJx9f9b0 0
theorem nmJx9f9b0 : ∀ a, a < 0 → ∀ b, b < 0 → a ≠ b → (TJx9f9b0 a).2.1 ≠ (TJx9f9b0 b).2.1 := by decide +kernel
theorem tyJx9f9b0_ok : ∀ k, k < 0 → parseFieldDescriptor (TJx9f9b0 k).2.2.1 = some (tyJx9f9b0 k) := by decide +kernel
def RJx8e188 : String := "java/lang/Cloneable"
def TJx8e188 : u_T := fun k => match k with
  | _ => ("", "", "", false)
def tyJx8e188 : Nat → FieldType := fun k => match k with
  | _ => .int
abbrev wsJx8e1880 : List Cond := u_ws RJx8e188 TJx8e188 0
theorem nmJx8e188 : ∀ a, a < 0 → ∀ b, b < 0 → a ≠ b → (TJx8e188 a).2.1 ≠ (TJx8e188 b).2.1 := by decide +kernel
theorem tyJx8e188_ok : ∀ k, k < 0 → parseFieldDescriptor (TJx8e188 k).2.2.1 = some (tyJx8e188 k) := by decide +kernel
def RJxb160c : String := "java/lang/Comparable"
def TJxb160c : u_T := fun k => match k with
  | _ => ("", "", "", false)
def tyJxb160c : Nat → FieldType := fun k => match k with
  | _ => .int
abbrev wsJxb160c0 : List Cond := u_ws RJxb160c TJxb160c 0
theorem nmJxb160c : ∀ a, a < 0 → ∀ b, b < 0 → a ≠ b → (TJxb160c a).2.1 ≠ (TJxb160c b).2.1 := by decide +kernel
theorem tyJxb160c_ok : ∀ k, k < 0 → parseFieldDescriptor (TJxb160c k).2.2.1 = some (tyJxb160c k) := by decide +kernel
def RJ6 : String := "java/lang/Integer"
def TJ6 : u_T := fun k => match k with
  | _ => ("", "", "", false)
def tyJ6 : Nat → FieldType := fun k => match k with
  | _ => .int
abbrev wsJ60 : List Cond := u_ws RJ6 TJ6 0
theorem nmJ6 : ∀ a, a < 0 → ∀ b, b < 0 → a ≠ b → (TJ6 a).2.1 ≠ (TJ6 b).2.1 := by decide +kernel
theorem tyJ6_ok : ∀ k, k < 0 → parseFieldDescriptor (TJ6 k).2.2.1 = some (tyJ6 k) := by decide +kernel
abbrev cJ6_getChars_ba4f3 : ByteArray := prog_24_method_12_code
def yJ6_getChars_ba4f3 : MethodName := ⟨RJ6, "getChars", "(II[B)I"⟩
abbrev cJ6_stringSize_0f7a4 : ByteArray := prog_24_method_13_code
def yJ6_stringSize_0f7a4 : MethodName := ⟨RJ6, "stringSize", "(I)I"⟩
abbrev cJ6_bitCount_0f7a4 : ByteArray := prog_24_method_49_code
def yJ6_bitCount_0f7a4 : MethodName := ⟨RJ6, "bitCount", "(I)I"⟩
def RJxab1ab : String := "java/lang/Iterable"
def TJxab1ab : u_T := fun k => match k with
  | _ => ("", "", "", false)
def tyJxab1ab : Nat → FieldType := fun k => match k with
  | _ => .int
abbrev wsJxab1ab0 : List Cond := u_ws RJxab1ab TJxab1ab 0
theorem nmJxab1ab : ∀ a, a < 0 → ∀ b, b < 0 → a ≠ b → (TJxab1ab a).2.1 ≠ (TJxab1ab b).2.1 := by decide +kernel
theorem tyJxab1ab_ok : ∀ k, k < 0 → parseFieldDescriptor (TJxab1ab k).2.2.1 = some (tyJxab1ab k) := by decide +kernel
def RJ9 : String := "java/lang/Math"
def TJ9 : u_T := fun k => match k with
  | _ => ("", "", "", false)
def tyJ9 : Nat → FieldType := fun k => match k with
  | _ => .int
abbrev wsJ90 : List Cond := u_ws RJ9 TJ9 0
theorem nmJ9 : ∀ a, a < 0 → ∀ b, b < 0 → a ≠ b → (TJ9 a).2.1 ≠ (TJ9 b).2.1 := by decide +kernel
theorem tyJ9_ok : ∀ k, k < 0 → parseFieldDescriptor (TJ9 k).2.2.1 = some (tyJ9 k) := by decide +kernel
abbrev cJ9_floorDiv_7cf53 : ByteArray := prog_26_method_47_code
def yJ9_floorDiv_7cf53 : MethodName := ⟨RJ9, "floorDiv", "(II)I"⟩
abbrev cJ9_floorMod_7cf53 : ByteArray := prog_26_method_50_code
def yJ9_floorMod_7cf53 : MethodName := ⟨RJ9, "floorMod", "(II)I"⟩
abbrev cJ9_max_7cf53 : ByteArray := prog_26_method_65_code
def yJ9_max_7cf53 : MethodName := ⟨RJ9, "max", "(II)I"⟩
abbrev cJ9_min_7cf53 : ByteArray := prog_26_method_69_code
def yJ9_min_7cf53 : MethodName := ⟨RJ9, "min", "(II)I"⟩
def RJxd2413 : String := "java/lang/Number"
def TJxd2413 : u_T := fun k => match k with
  | _ => ("", "", "", false)
def tyJxd2413 : Nat → FieldType := fun k => match k with
  | _ => .int
abbrev wsJxd24130 : List Cond := u_ws RJxd2413 TJxd2413 0
theorem nmJxd2413 : ∀ a, a < 0 → ∀ b, b < 0 → a ≠ b → (TJxd2413 a).2.1 ≠ (TJxd2413 b).2.1 := by decide +kernel
theorem tyJxd2413_ok : ∀ k, k < 0 → parseFieldDescriptor (TJxd2413 k).2.2.1 = some (tyJxd2413 k) := by decide +kernel
def RJ0 : String := "java/lang/String"
def TJ0 : u_T := fun k => match k with
  | 0 => ("java/lang/String", "value", "[B", true)
  | 1 => ("java/lang/String", "coder", "B", true)
  | 2 => ("java/lang/String", "hash", "I", false)
  | _ => ("java/lang/String", "hashIsZero", "Z", false)
def tyJ0 : Nat → FieldType := fun k => match k with
  | 0 => .array .byte
  | 1 => .byte
  | 2 => .int
  | _ => .boolean
abbrev wsJ00 : List Cond := u_ws RJ0 TJ0 4
theorem nmJ0 : ∀ a, a < 4 → ∀ b, b < 4 → a ≠ b → (TJ0 a).2.1 ≠ (TJ0 b).2.1 := by decide +kernel
theorem tyJ0_ok : ∀ k, k < 4 → parseFieldDescriptor (TJ0 k).2.2.1 = some (tyJ0 k) := by decide +kernel
abbrev cJ0_init_81219 : ByteArray := prog_29_method_53_code
def yJ0_init_81219 : MethodName := ⟨RJ0, "<init>", "(Ljava/lang/StringBuilder;)V"⟩
abbrev cJ0_length_8abf5 : ByteArray := prog_29_method_54_code
def yJ0_length_8abf5 : MethodName := ⟨RJ0, "length", "()I"⟩
abbrev cJ0_charAt_5068e : ByteArray := prog_29_method_56_code
def yJ0_charAt_5068e : MethodName := ⟨RJ0, "charAt", "(I)C"⟩
abbrev cJ0_getBytes_840e7 : ByteArray := prog_29_method_147_code
def yJ0_getBytes_840e7 : MethodName := ⟨RJ0, "getBytes", "([BIB)V"⟩
abbrev cJ0_init_db425 : ByteArray := prog_29_method_150_code
def yJ0_init_db425 : MethodName := ⟨RJ0, "<init>", "(Ljava/lang/AbstractStringBuilder;Ljava/lang/Void;)V"⟩
abbrev cJ0_coder_7d493 : ByteArray := prog_29_method_152_code
def yJ0_coder_7d493 : MethodName := ⟨RJ0, "coder", "()B"⟩
abbrev cJ0_isLatin1_aae02 : ByteArray := prog_29_method_154_code
def yJ0_isLatin1_aae02 : MethodName := ⟨RJ0, "isLatin1", "()Z"⟩
abbrev cJ0_checkIndex_df160 : ByteArray := prog_29_method_155_code
def yJ0_checkIndex_df160 : MethodName := ⟨RJ0, "checkIndex", "(II)V"⟩
abbrev cJ0_checkBoundsOffCount_cabcc : ByteArray := prog_29_method_157_code
def yJ0_checkBoundsOffCount_cabcc : MethodName := ⟨RJ0, "checkBoundsOffCount", "(III)I"⟩
abbrev cJ0_checkBoundsBeginEnd_23922 : ByteArray := prog_29_method_158_code
def yJ0_checkBoundsBeginEnd_23922 : MethodName := ⟨RJ0, "checkBoundsBeginEnd", "(III)V"⟩
def RJ4 : String := "java/lang/StringBuilder"
def TJ4 : u_T := fun k => match k with
  | 0 => ("java/lang/AbstractStringBuilder", "value", "[B", false)
  | 1 => ("java/lang/AbstractStringBuilder", "coder", "B", false)
  | 2 => ("java/lang/AbstractStringBuilder", "maybeLatin1", "Z", false)
  | _ => ("java/lang/AbstractStringBuilder", "count", "I", false)
def tyJ4 : Nat → FieldType := fun k => match k with
  | 0 => .array .byte
  | 1 => .byte
  | 2 => .boolean
  | _ => .int
abbrev wsJ40 : List Cond := u_ws RJ4 TJ4 4
theorem nmJ4 : ∀ a, a < 4 → ∀ b, b < 4 → a ≠ b → (TJ4 a).2.1 ≠ (TJ4 b).2.1 := by decide +kernel
theorem tyJ4_ok : ∀ k, k < 4 → parseFieldDescriptor (TJ4 k).2.2.1 = some (tyJ4 k) := by decide +kernel
abbrev cJ4_init_da8c8 : ByteArray := prog_30_method_1_code
def yJ4_init_da8c8 : MethodName := ⟨RJ4, "<init>", "()V"⟩
abbrev cJ4_append_15ec4 : ByteArray := prog_30_method_7_code
def yJ4_append_15ec4 : MethodName := ⟨RJ4, "append", "(Ljava/lang/String;)Ljava/lang/StringBuilder;"⟩
abbrev cJ4_append_cf468 : ByteArray := prog_30_method_14_code
def yJ4_append_cf468 : MethodName := ⟨RJ4, "append", "(C)Ljava/lang/StringBuilder;"⟩
abbrev cJ4_append_bf812 : ByteArray := prog_30_method_15_code
def yJ4_append_bf812 : MethodName := ⟨RJ4, "append", "(I)Ljava/lang/StringBuilder;"⟩
abbrev cJ4_toString_0e30d : ByteArray := prog_30_method_42_code
def yJ4_toString_0e30d : MethodName := ⟨RJ4, "toString", "()Ljava/lang/String;"⟩
abbrev cJ4_length_8abf5 : ByteArray := prog_30_method_93_code
def yJ4_length_8abf5 : MethodName := ⟨RJ4, "length", "()I"⟩
def RJ1 : String := "java/lang/StringLatin1"
def TJ1 : u_T := fun k => match k with
  | _ => ("", "", "", false)
def tyJ1 : Nat → FieldType := fun k => match k with
  | _ => .int
abbrev wsJ10 : List Cond := u_ws RJ1 TJ1 0
theorem nmJ1 : ∀ a, a < 0 → ∀ b, b < 0 → a ≠ b → (TJ1 a).2.1 ≠ (TJ1 b).2.1 := by decide +kernel
theorem tyJ1_ok : ∀ k, k < 0 → parseFieldDescriptor (TJ1 k).2.2.1 = some (tyJ1 k) := by decide +kernel
abbrev cJ1_charAt_3b067 : ByteArray := prog_31_method_2_code
def yJ1_charAt_3b067 : MethodName := ⟨RJ1, "charAt", "([BI)C"⟩
abbrev cJ1_canEncode_fc78d : ByteArray := prog_31_method_3_code
def yJ1_canEncode_fc78d : MethodName := ⟨RJ1, "canEncode", "(C)Z"⟩
abbrev cJ1_inflate_0e8fd : ByteArray := prog_31_method_50_code
def yJ1_inflate_0e8fd : MethodName := ⟨RJ1, "inflate", "([BI[BII)V"⟩
def RJ2 : String := "java/lang/StringUTF16"
def TJ2 : u_T := fun k => match k with
  | _ => ("", "", "", false)
def tyJ2 : Nat → FieldType := fun k => match k with
  | _ => .int
abbrev wsJ20 : List Cond := u_ws RJ2 TJ2 0
theorem nmJ2 : ∀ a, a < 0 → ∀ b, b < 0 → a ≠ b → (TJ2 a).2.1 ≠ (TJ2 b).2.1 := by decide +kernel
theorem tyJ2_ok : ∀ k, k < 0 → parseFieldDescriptor (TJ2 k).2.2.1 = some (tyJ2 k) := by decide +kernel
abbrev cJ2_newBytesFor_77867 : ByteArray := prog_32_method_2_code
def yJ2_newBytesFor_77867 : MethodName := ⟨RJ2, "newBytesFor", "(I)[B"⟩
abbrev cJ2_newBytesLength_0f7a4 : ByteArray := prog_32_method_3_code
def yJ2_newBytesLength_0f7a4 : MethodName := ⟨RJ2, "newBytesLength", "(I)I"⟩
abbrev cJ2_putChar_b72d1 : ByteArray := prog_32_method_4_code
def yJ2_putChar_b72d1 : MethodName := ⟨RJ2, "putChar", "([BII)V"⟩
abbrev cJ2_getChar_3b067 : ByteArray := prog_32_method_5_code
def yJ2_getChar_3b067 : MethodName := ⟨RJ2, "getChar", "([BI)C"⟩
abbrev cJ2_length_9d52b : ByteArray := prog_32_method_6_code
def yJ2_length_9d52b : MethodName := ⟨RJ2, "length", "([B)I"⟩
abbrev cJ2_coderFromArrayLen_85cad : ByteArray := prog_32_method_15_code
def yJ2_coderFromArrayLen_85cad : MethodName := ⟨RJ2, "coderFromArrayLen", "([BI)B"⟩
abbrev cJ2_compress_39247 : ByteArray := prog_32_method_17_code
def yJ2_compress_39247 : MethodName := ⟨RJ2, "compress", "([BII)[B"⟩
abbrev cJ2_compress_5af95 : ByteArray := prog_32_method_22_code
def yJ2_compress_5af95 : MethodName := ⟨RJ2, "compress", "([BI[BII)I"⟩
abbrev cJ2_putCharSB_b72d1 : ByteArray := prog_32_method_71_code
def yJ2_putCharSB_b72d1 : MethodName := ⟨RJ2, "putCharSB", "([BII)V"⟩
abbrev cJ2_getChars_46870 : ByteArray := prog_32_method_77_code
def yJ2_getChars_46870 : MethodName := ⟨RJ2, "getChars", "(III[B)I"⟩
abbrev cJ2_putCharsAt_cd4e5 : ByteArray := prog_32_method_81_code
def yJ2_putCharsAt_cd4e5 : MethodName := ⟨RJ2, "putCharsAt", "([BICCCC)I"⟩
abbrev cJ2_charAt_3b067 : ByteArray := prog_32_method_83_code
def yJ2_charAt_3b067 : MethodName := ⟨RJ2, "charAt", "([BI)C"⟩
abbrev cJ2_inflate_0e8fd : ByteArray := prog_32_method_86_code
def yJ2_inflate_0e8fd : MethodName := ⟨RJ2, "inflate", "([BI[BII)V"⟩
abbrev cJ2_getChars_ba4f3 : ByteArray := prog_32_method_89_code
def yJ2_getChars_ba4f3 : MethodName := ⟨RJ2, "getChars", "(II[B)I"⟩
abbrev cJ2_checkIndex_2214a : ByteArray := prog_32_method_91_code
def yJ2_checkIndex_2214a : MethodName := ⟨RJ2, "checkIndex", "(I[B)V"⟩
abbrev cJ2_checkBoundsBeginEnd_d044e : ByteArray := prog_32_method_93_code
def yJ2_checkBoundsBeginEnd_d044e : MethodName := ⟨RJ2, "checkBoundsBeginEnd", "(II[B)V"⟩
abbrev cJ2_checkBoundsOffCount_d044e : ByteArray := prog_32_method_94_code
def yJ2_checkBoundsOffCount_d044e : MethodName := ⟨RJ2, "checkBoundsOffCount", "(II[B)V"⟩
def RJ10 : String := "java/lang/System"
def TJ10 : u_T := fun k => match k with
  | _ => ("", "", "", false)
def tyJ10 : Nat → FieldType := fun k => match k with
  | _ => .int
abbrev wsJ100 : List Cond := u_ws RJ10 TJ10 0
theorem nmJ10 : ∀ a, a < 0 → ∀ b, b < 0 → a ≠ b → (TJ10 a).2.1 ≠ (TJ10 b).2.1 := by decide +kernel
theorem tyJ10_ok : ∀ k, k < 0 → parseFieldDescriptor (TJ10 k).2.2.1 = some (tyJ10 k) := by decide +kernel
def RJxfd54e : String := "java/lang/constant/Constable"
def TJxfd54e : u_T := fun k => match k with
  | _ => ("", "", "", false)
def tyJxfd54e : Nat → FieldType := fun k => match k with
  | _ => .int
abbrev wsJxfd54e0 : List Cond := u_ws RJxfd54e TJxfd54e 0
theorem nmJxfd54e : ∀ a, a < 0 → ∀ b, b < 0 → a ≠ b → (TJxfd54e a).2.1 ≠ (TJxfd54e b).2.1 := by decide +kernel
theorem tyJxfd54e_ok : ∀ k, k < 0 → parseFieldDescriptor (TJxfd54e k).2.2.1 = some (tyJxfd54e k) := by decide +kernel
def RJx3cf43 : String := "java/lang/constant/ConstantDesc"
def TJx3cf43 : u_T := fun k => match k with
  | _ => ("", "", "", false)
def tyJx3cf43 : Nat → FieldType := fun k => match k with
  | _ => .int
abbrev wsJx3cf430 : List Cond := u_ws RJx3cf43 TJx3cf43 0
theorem nmJx3cf43 : ∀ a, a < 0 → ∀ b, b < 0 → a ≠ b → (TJx3cf43 a).2.1 ≠ (TJx3cf43 b).2.1 := by decide +kernel
theorem tyJx3cf43_ok : ∀ k, k < 0 → parseFieldDescriptor (TJx3cf43 k).2.2.1 = some (tyJx3cf43 k) := by decide +kernel
def RJxa1e45 : String := "java/util/AbstractCollection"
def TJxa1e45 : u_T := fun k => match k with
  | _ => ("", "", "", false)
def tyJxa1e45 : Nat → FieldType := fun k => match k with
  | _ => .int
abbrev wsJxa1e450 : List Cond := u_ws RJxa1e45 TJxa1e45 0
theorem nmJxa1e45 : ∀ a, a < 0 → ∀ b, b < 0 → a ≠ b → (TJxa1e45 a).2.1 ≠ (TJxa1e45 b).2.1 := by decide +kernel
theorem tyJxa1e45_ok : ∀ k, k < 0 → parseFieldDescriptor (TJxa1e45 k).2.2.1 = some (tyJxa1e45 k) := by decide +kernel
abbrev cJxa1e45_init_da8c8 : ByteArray := prog_37_method_1_code
def yJxa1e45_init_da8c8 : MethodName := ⟨RJxa1e45, "<init>", "()V"⟩
def RJxc12de : String := "java/util/AbstractList"
def TJxc12de : u_T := fun k => match k with
  | _ => ("", "", "", false)
def tyJxc12de : Nat → FieldType := fun k => match k with
  | _ => .int
abbrev wsJxc12de0 : List Cond := u_ws RJxc12de TJxc12de 0
theorem nmJxc12de : ∀ a, a < 0 → ∀ b, b < 0 → a ≠ b → (TJxc12de a).2.1 ≠ (TJxc12de b).2.1 := by decide +kernel
theorem tyJxc12de_ok : ∀ k, k < 0 → parseFieldDescriptor (TJxc12de k).2.2.1 = some (tyJxc12de k) := by decide +kernel
abbrev cJxc12de_init_da8c8 : ByteArray := prog_38_method_1_code
def yJxc12de_init_da8c8 : MethodName := ⟨RJxc12de, "<init>", "()V"⟩
def RJx4a65c : String := "java/util/ArrayList"
def TJx4a65c : u_T := fun k => match k with
  | 0 => ("java/util/AbstractList", "modCount", "I", false)
  | 1 => ("java/util/ArrayList", "elementData", "[Ljava/lang/Object;", false)
  | _ => ("java/util/ArrayList", "size", "I", false)
def tyJx4a65c : Nat → FieldType := fun k => match k with
  | 0 => .int
  | 1 => .array (.object "java/lang/Object")
  | _ => .int
abbrev wsJx4a65c0 : List Cond := u_ws RJx4a65c TJx4a65c 3
theorem nmJx4a65c : ∀ a, a < 3 → ∀ b, b < 3 → a ≠ b → (TJx4a65c a).2.1 ≠ (TJx4a65c b).2.1 := by decide +kernel
theorem tyJx4a65c_ok : ∀ k, k < 3 → parseFieldDescriptor (TJx4a65c k).2.2.1 = some (tyJx4a65c k) := by decide +kernel
abbrev cJx4a65c_init_da8c8 : ByteArray := prog_39_method_2_code
def yJx4a65c_init_da8c8 : MethodName := ⟨RJx4a65c, "<init>", "()V"⟩
abbrev cJx4a65c_grow_92f84 : ByteArray := prog_39_method_6_code
def yJx4a65c_grow_92f84 : MethodName := ⟨RJx4a65c, "grow", "(I)[Ljava/lang/Object;"⟩
abbrev cJx4a65c_grow_d5877 : ByteArray := prog_39_method_7_code
def yJx4a65c_grow_d5877 : MethodName := ⟨RJx4a65c, "grow", "()[Ljava/lang/Object;"⟩
abbrev cJx4a65c_size_8abf5 : ByteArray := prog_39_method_8_code
def yJx4a65c_size_8abf5 : MethodName := ⟨RJx4a65c, "size", "()I"⟩
abbrev cJx4a65c_elementData_915e3 : ByteArray := prog_39_method_18_code
def yJx4a65c_elementData_915e3 : MethodName := ⟨RJx4a65c, "elementData", "(I)Ljava/lang/Object;"⟩
abbrev cJx4a65c_get_915e3 : ByteArray := prog_39_method_20_code
def yJx4a65c_get_915e3 : MethodName := ⟨RJx4a65c, "get", "(I)Ljava/lang/Object;"⟩
abbrev cJx4a65c_add_72be8 : ByteArray := prog_39_method_24_code
def yJx4a65c_add_72be8 : MethodName := ⟨RJx4a65c, "add", "(Ljava/lang/Object;[Ljava/lang/Object;I)V"⟩
abbrev cJx4a65c_add_9ea2d : ByteArray := prog_39_method_25_code
def yJx4a65c_add_9ea2d : MethodName := ⟨RJx4a65c, "add", "(Ljava/lang/Object;)Z"⟩
abbrev cJx4a65c_remove_915e3 : ByteArray := prog_39_method_29_code
def yJx4a65c_remove_915e3 : MethodName := ⟨RJx4a65c, "remove", "(I)Ljava/lang/Object;"⟩
abbrev cJx4a65c_fastRemove_b59b0 : ByteArray := prog_39_method_39_code
def yJx4a65c_fastRemove_b59b0 : MethodName := ⟨RJx4a65c, "fastRemove", "([Ljava/lang/Object;I)V"⟩
def RJ7 : String := "java/util/Arrays"
def TJ7 : u_T := fun k => match k with
  | _ => ("", "", "", false)
def tyJ7 : Nat → FieldType := fun k => match k with
  | _ => .int
abbrev wsJ70 : List Cond := u_ws RJ7 TJ7 0
theorem nmJ7 : ∀ a, a < 0 → ∀ b, b < 0 → a ≠ b → (TJ7 a).2.1 ≠ (TJ7 b).2.1 := by decide +kernel
theorem tyJ7_ok : ∀ k, k < 0 → parseFieldDescriptor (TJ7 k).2.2.1 = some (tyJ7 k) := by decide +kernel
abbrev cJ7_fill_53178 : ByteArray := prog_40_method_103_code
def yJ7_fill_53178 : MethodName := ⟨RJ7, "fill", "([II)V"⟩
abbrev cJ7_copyOf_1904c : ByteArray := prog_40_method_119_code
def yJ7_copyOf_1904c : MethodName := ⟨RJ7, "copyOf", "([Ljava/lang/Object;I)[Ljava/lang/Object;"⟩
abbrev cJ7_copyOf_6403c : ByteArray := prog_40_method_120_code
def yJ7_copyOf_6403c : MethodName := ⟨RJ7, "copyOf", "([Ljava/lang/Object;ILjava/lang/Class;)[Ljava/lang/Object;"⟩
abbrev cJ7_copyOf_9075b : ByteArray := prog_40_method_121_code
def yJ7_copyOf_9075b : MethodName := ⟨RJ7, "copyOf", "([BI)[B"⟩
abbrev cJ7_checkLength_df160 : ByteArray := prog_40_method_131_code
def yJ7_checkLength_df160 : MethodName := ⟨RJ7, "checkLength", "(II)V"⟩
abbrev cJ7_copyOfRange_39247 : ByteArray := prog_40_method_132_code
def yJ7_copyOfRange_39247 : MethodName := ⟨RJ7, "copyOfRange", "([BII)[B"⟩
abbrev cJ7_copyOfRangeByte_39247 : ByteArray := prog_40_method_133_code
def yJ7_copyOfRangeByte_39247 : MethodName := ⟨RJ7, "copyOfRangeByte", "([BII)[B"⟩
def RJx5ef63 : String := "java/util/Collection"
def TJx5ef63 : u_T := fun k => match k with
  | _ => ("", "", "", false)
def tyJx5ef63 : Nat → FieldType := fun k => match k with
  | _ => .int
abbrev wsJx5ef630 : List Cond := u_ws RJx5ef63 TJx5ef63 0
theorem nmJx5ef63 : ∀ a, a < 0 → ∀ b, b < 0 → a ≠ b → (TJx5ef63 a).2.1 ≠ (TJx5ef63 b).2.1 := by decide +kernel
theorem tyJx5ef63_ok : ∀ k, k < 0 → parseFieldDescriptor (TJx5ef63 k).2.2.1 = some (tyJx5ef63 k) := by decide +kernel
def RJxbd725 : String := "java/util/List"
def TJxbd725 : u_T := fun k => match k with
  | _ => ("", "", "", false)
def tyJxbd725 : Nat → FieldType := fun k => match k with
  | _ => .int
abbrev wsJxbd7250 : List Cond := u_ws RJxbd725 TJxbd725 0
theorem nmJxbd725 : ∀ a, a < 0 → ∀ b, b < 0 → a ≠ b → (TJxbd725 a).2.1 ≠ (TJxbd725 b).2.1 := by decide +kernel
theorem tyJxbd725_ok : ∀ k, k < 0 → parseFieldDescriptor (TJxbd725 k).2.2.1 = some (tyJxbd725 k) := by decide +kernel
def RJ15 : String := "java/util/Objects"
def TJ15 : u_T := fun k => match k with
  | _ => ("", "", "", false)
def tyJ15 : Nat → FieldType := fun k => match k with
  | _ => .int
abbrev wsJ150 : List Cond := u_ws RJ15 TJ15 0
theorem nmJ15 : ∀ a, a < 0 → ∀ b, b < 0 → a ≠ b → (TJ15 a).2.1 ≠ (TJ15 b).2.1 := by decide +kernel
theorem tyJ15_ok : ∀ k, k < 0 → parseFieldDescriptor (TJ15 k).2.2.1 = some (tyJ15 k) := by decide +kernel
abbrev cJ15_checkIndex_7cf53 : ByteArray := prog_43_method_17_code
def yJ15_checkIndex_7cf53 : MethodName := ⟨RJ15, "checkIndex", "(II)I"⟩
def RJxf0a74 : String := "java/util/RandomAccess"
def TJxf0a74 : u_T := fun k => match k with
  | _ => ("", "", "", false)
def tyJxf0a74 : Nat → FieldType := fun k => match k with
  | _ => .int
abbrev wsJxf0a740 : List Cond := u_ws RJxf0a74 TJxf0a74 0
theorem nmJxf0a74 : ∀ a, a < 0 → ∀ b, b < 0 → a ≠ b → (TJxf0a74 a).2.1 ≠ (TJxf0a74 b).2.1 := by decide +kernel
theorem tyJxf0a74_ok : ∀ k, k < 0 → parseFieldDescriptor (TJxf0a74 k).2.2.1 = some (tyJxf0a74 k) := by decide +kernel
def RJxa66e6 : String := "java/util/SequencedCollection"
def TJxa66e6 : u_T := fun k => match k with
  | _ => ("", "", "", false)
def tyJxa66e6 : Nat → FieldType := fun k => match k with
  | _ => .int
abbrev wsJxa66e60 : List Cond := u_ws RJxa66e6 TJxa66e6 0
theorem nmJxa66e6 : ∀ a, a < 0 → ∀ b, b < 0 → a ≠ b → (TJxa66e6 a).2.1 ≠ (TJxa66e6 b).2.1 := by decide +kernel
theorem tyJxa66e6_ok : ∀ k, k < 0 → parseFieldDescriptor (TJxa66e6 k).2.2.1 = some (tyJxa66e6 k) := by decide +kernel
def RJ8 : String := "jdk/internal/util/ArraysSupport"
def TJ8 : u_T := fun k => match k with
  | _ => ("", "", "", false)
def tyJ8 : Nat → FieldType := fun k => match k with
  | _ => .int
abbrev wsJ80 : List Cond := u_ws RJ8 TJ8 0
theorem nmJ8 : ∀ a, a < 0 → ∀ b, b < 0 → a ≠ b → (TJ8 a).2.1 ≠ (TJ8 b).2.1 := by decide +kernel
theorem tyJ8_ok : ∀ k, k < 0 → parseFieldDescriptor (TJ8 k).2.2.1 = some (tyJ8 k) := by decide +kernel
abbrev cJ8_newLength_cabcc : ByteArray := prog_46_method_27_code
def yJ8_newLength_cabcc : MethodName := ⟨RJ8, "newLength", "(III)I"⟩
abbrev cJ8_hugeLength_7cf53 : ByteArray := prog_46_method_28_code
def yJ8_hugeLength_7cf53 : MethodName := ⟨RJ8, "hugeLength", "(II)I"⟩
def RJ3 : String := "jdk/internal/util/Preconditions"
def TJ3 : u_T := fun k => match k with
  | _ => ("", "", "", false)
def tyJ3 : Nat → FieldType := fun k => match k with
  | _ => .int
abbrev wsJ30 : List Cond := u_ws RJ3 TJ3 0
theorem nmJ3 : ∀ a, a < 0 → ∀ b, b < 0 → a ≠ b → (TJ3 a).2.1 ≠ (TJ3 b).2.1 := by decide +kernel
theorem tyJ3_ok : ∀ k, k < 0 → parseFieldDescriptor (TJ3 k).2.2.1 = some (tyJ3 k) := by decide +kernel
abbrev cJ3_checkIndex_8e157 : ByteArray := prog_47_method_11_code
def yJ3_checkIndex_8e157 : MethodName := ⟨RJ3, "checkIndex", "(IILjava/util/function/BiFunction;)I"⟩
abbrev cJ3_checkFromToIndex_8c36e : ByteArray := prog_47_method_12_code
def yJ3_checkFromToIndex_8c36e : MethodName := ⟨RJ3, "checkFromToIndex", "(IIILjava/util/function/BiFunction;)I"⟩
abbrev cJ3_checkFromIndexSize_8c36e : ByteArray := prog_47_method_13_code
def yJ3_checkFromIndexSize_8c36e : MethodName := ⟨RJ3, "checkFromIndexSize", "(IIILjava/util/function/BiFunction;)I"⟩
def RL : String := "RentDivisionLaw"
abbrev cL_cell : ByteArray := method_2_code
def yL_cell : MethodName := ⟨RL, "cell", "([II)I"⟩
abbrev cL_mod : ByteArray := method_3_code
def yL_mod : MethodName := ⟨RL, "mod", "(II)I"⟩
abbrev cL_put : ByteArray := method_4_code
def yL_put : MethodName := ⟨RL, "put", "(LRentDivision;Ljava/lang/String;)V"⟩
abbrev cL_law : ByteArray := code
def yL_law : MethodName := ⟨RL, "law", "([I)Z"⟩
abbrev vwCl : List vw_C := [(RX0, TX0, 4), (RX1, TX1, 7), (RX2, TX2, 16), (RX3, TX3, 3), (RX4, TX4, 10), (RX5, TX5, 2), (RX6, TX6, 8), (RX7, TX7, 6), (RX8, TX8, 8), (RX9, TX9, 1), (RX10, TX10, 6), (RX11, TX11, 9), (RX12, TX12, 25), (RJ0, TJ0, 4), (RJ4, TJ4, 4), (RJx4a65c, TJx4a65c, 3)]
