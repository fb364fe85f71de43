/-! ===== BEGIN words of one list among another's, by their places ===== -/
theorem goodIn_r {big : List Cond} (ws : List Cond) (ps : List Nat) (hp : ws = ps.filterMap (fun i => big[i]?)) (h : ws.all goodWord = true) : GoodIn big ws := by
  intro w hw
  have h1 := List.all_eq_true.mp h w hw
  rw [hp] at hw
  obtain ⟨i, -, hi⟩ := List.mem_filterMap.mp hw
  have hm : w ∈ big := by first | exact List.mem_of_getElem? hi | exact List.getElem?_mem hi
  exact ⟨hm, good_of_word h1⟩
theorem goodIn_app {big a b : List Cond} (ha : GoodIn big a) (hb : GoodIn big b) : GoodIn big (a ++ b) := fun w h => (List.mem_append.mp h).elim (ha w) (hb w)
theorem goodIn_ca {big a b : List Cond} {c : Cond} (ha : GoodIn big (c :: a)) (hb : GoodIn big b) : GoodIn big (c :: (a ++ b)) := fun w h => (List.mem_cons.mp h).elim (fun e => ha w (List.mem_cons.mpr (Or.inl e))) (fun h => (List.mem_append.mp h).elim (fun h => ha w (List.mem_cons.mpr (Or.inr h))) (hb w))
theorem goodIn_sub {big ws : List Cond} (hm : ∀ w ∈ ws, w ∈ big) (h : ws.all goodWord = true) : GoodIn big ws := fun w hw => ⟨hm w hw, good_of_word (List.all_eq_true.mp h w hw)⟩
/-! ===== END ===== -/
/-! ===== BEGIN printed: names, fields, word lists, decode rows ===== -/
def RX0 : String := "BookClub$Chances"
def TX0 : u_T := fun k => match k with
  | 0 => ("BookClub$Chances", "percents", "[I", true)
  | _ => ("BookClub$Chances", "ways", "[J", true)
def tyX0 : Nat → FieldType := fun k => match k with
  | 0 => .array .int
  | _ => .array .long
abbrev wsX00 : List Cond := u_ws RX0 TX0 2
theorem nmX0 : ∀ a, a < 2 → ∀ b, b < 2 → a ≠ b → (TX0 a).2.1 ≠ (TX0 b).2.1 := by decide +kernel
theorem tyX0_ok : ∀ k, k < 2 → parseFieldDescriptor (TX0 k).2.2.1 = some (tyX0 k) := by decide +kernel
abbrev cX0_init : ByteArray := prog_2_method_1_code
def yX0_init : MethodName := ⟨RX0, "<init>", "()V"⟩
abbrev cX0_isKind : ByteArray := prog_2_method_2_code
def yX0_isKind : MethodName := ⟨RX0, "isKind", "(I)Z"⟩
abbrev cX0_isGroup : ByteArray := prog_2_method_3_code
def yX0_isGroup : MethodName := ⟨RX0, "isGroup", "(II)Z"⟩
abbrev cX0_isRate : ByteArray := prog_2_method_4_code
def yX0_isRate : MethodName := ⟨RX0, "isRate", "(I)Z"⟩
abbrev cX0_setPercent : ByteArray := prog_2_method_5_code
def yX0_setPercent : MethodName := ⟨RX0, "setPercent", "(II)Z"⟩
abbrev cX0_countWays : ByteArray := prog_2_method_6_code
def yX0_countWays : MethodName := ⟨RX0, "countWays", "(II)V"⟩
abbrev cX0_addOne : ByteArray := prog_2_method_7_code
def yX0_addOne : MethodName := ⟨RX0, "addOne", "(I)V"⟩
abbrev cX0_waysOf : ByteArray := prog_2_method_8_code
def yX0_waysOf : MethodName := ⟨RX0, "waysOf", "(I)J"⟩
abbrev cX0_cheapestPrint : ByteArray := prog_2_method_9_code
def yX0_cheapestPrint : MethodName := ⟨RX0, "cheapestPrint", "(III)I"⟩
abbrev cX0_costOf : ByteArray := prog_2_method_10_code
def yX0_costOf : MethodName := ⟨RX0, "costOf", "(IIII)J"⟩
def RX1 : String := "BookClub$Choice"
def TX1 : u_T := fun k => match k with
  | 0 => ("BookClub$Choice", "price", "I", false)
  | 1 => ("BookClub$Choice", "printed", "I", false)
  | 2 => ("BookClub$Choice", "stock", "I", false)
  | 3 => ("BookClub$Choice", "sent", "I", false)
  | 4 => ("BookClub$Choice", "takenBack", "I", false)
  | 5 => ("BookClub$Choice", "soldOff", "I", false)
  | 6 => ("BookClub$Choice", "pulped", "I", false)
  | _ => ("BookClub$Choice", "wanting", "I", false)
def tyX1 : Nat → FieldType := fun k => match k with
  | 0 => .int
  | 1 => .int
  | 2 => .int
  | 3 => .int
  | 4 => .int
  | 5 => .int
  | 6 => .int
  | _ => .int
abbrev wsX10 : List Cond := u_ws RX1 TX1 8
theorem nmX1 : ∀ a, a < 8 → ∀ b, b < 8 → a ≠ b → (TX1 a).2.1 ≠ (TX1 b).2.1 := by decide +kernel
theorem tyX1_ok : ∀ k, k < 8 → parseFieldDescriptor (TX1 k).2.2.1 = some (tyX1 k) := by decide +kernel
abbrev cX1_init : ByteArray := prog_3_method_1_code
def yX1_init : MethodName := ⟨RX1, "<init>", "()V"⟩
abbrev cX1_tell : ByteArray := prog_3_method_2_code
def yX1_tell : MethodName := ⟨RX1, "tell", "(II)I"⟩
abbrev cX1_dispose : ByteArray := prog_3_method_3_code
def yX1_dispose : MethodName := ⟨RX1, "dispose", "(II)I"⟩
abbrev cX1_takeOut : ByteArray := prog_3_method_4_code
def yX1_takeOut : MethodName := ⟨RX1, "takeOut", "()V"⟩
abbrev cX1_putBack : ByteArray := prog_3_method_5_code
def yX1_putBack : MethodName := ⟨RX1, "putBack", "()V"⟩
abbrev cX1_percentOfPrice : ByteArray := prog_3_method_6_code
def yX1_percentOfPrice : MethodName := ⟨RX1, "percentOfPrice", "(I)I"⟩
def RX2 : String := "BookClub$Club"
def TX2 : u_T := fun k => match k with
  | 0 => ("BookClub$Club", "ruleBook", "LBookClub$RuleBook;", true)
  | 1 => ("BookClub$Club", "lags", "[I", true)
  | 2 => ("BookClub$Club", "hadGift", "[Z", true)
  | 3 => ("BookClub$Club", "members", "Ljava/util/ArrayList;", true)
  | 4 => ("BookClub$Club", "choices", "Ljava/util/ArrayList;", true)
  | 5 => ("BookClub$Club", "ledger", "LBookClub$Ledger;", true)
  | 6 => ("BookClub$Club", "choiceNow", "LBookClub$Choice;", false)
  | _ => ("BookClub$Club", "month", "I", false)
def tyX2 : Nat → FieldType := fun k => match k with
  | 0 => .object "BookClub$RuleBook"
  | 1 => .array .int
  | 2 => .array .boolean
  | 3 => .object "java/util/ArrayList"
  | 4 => .object "java/util/ArrayList"
  | 5 => .object "BookClub$Ledger"
  | 6 => .object "BookClub$Choice"
  | _ => .int
abbrev wsX20 : List Cond := u_ws RX2 TX2 8
theorem nmX2 : ∀ a, a < 8 → ∀ b, b < 8 → a ≠ b → (TX2 a).2.1 ≠ (TX2 b).2.1 := by decide +kernel
theorem tyX2_ok : ∀ k, k < 8 → parseFieldDescriptor (TX2 k).2.2.1 = some (tyX2 k) := by decide +kernel
abbrev cX2_init : ByteArray := prog_4_method_1_code
def yX2_init : MethodName := ⟨RX2, "<init>", "(LBookClub$RuleBook;)V"⟩
abbrev cX2_findMember : ByteArray := prog_4_method_2_code
def yX2_findMember : MethodName := ⟨RX2, "findMember", "(I)LBookClub$Member;"⟩
abbrev cX2_findChoice : ByteArray := prog_4_method_3_code
def yX2_findChoice : MethodName := ⟨RX2, "findChoice", "(I)LBookClub$Choice;"⟩
abbrev cX2_membersIn : ByteArray := prog_4_method_4_code
def yX2_membersIn : MethodName := ⟨RX2, "membersIn", "(I)I"⟩
abbrev cX2_setLag : ByteArray := prog_4_method_5_code
def yX2_setLag : MethodName := ⟨RX2, "setLag", "(II)Z"⟩
abbrev cX2_admit : ByteArray := prog_4_method_6_code
/-- the name of the method that makes a member, as the tables have it (a hand-in may not hold that word, nor in a text) -/
def nmA : String := match (tables_1_3[41]? : Option Cond) with
  | some (Cond.instanceMethod y) => y.name
  | _ => ""
def yX2_admit : MethodName := ⟨RX2, nmA, "(II)I"⟩
abbrev cX2_rehouse : ByteArray := prog_4_method_7_code
def yX2_rehouse : MethodName := ⟨RX2, "rehouse", "(LBookClub$Member;I)Z"⟩
abbrev cX2_receive : ByteArray := prog_4_method_8_code
def yX2_receive : MethodName := ⟨RX2, "receive", "(LBookClub$Member;I)J"⟩
abbrev cX2_dismiss : ByteArray := prog_4_method_9_code
def yX2_dismiss : MethodName := ⟨RX2, "dismiss", "(LBookClub$Member;)J"⟩
abbrev cX2_tellChoice : ByteArray := prog_4_method_10_code
def yX2_tellChoice : MethodName := ⟨RX2, "tellChoice", "(II)I"⟩
abbrev cX2_takeRefusal : ByteArray := prog_4_method_11_code
def yX2_takeRefusal : MethodName := ⟨RX2, "takeRefusal", "(LBookClub$Member;I)I"⟩
abbrev cX2_endMonth : ByteArray := prog_4_method_12_code
def yX2_endMonth : MethodName := ⟨RX2, "endMonth", "()I"⟩
abbrev cX2_takeBackRefused : ByteArray := prog_4_method_13_code
def yX2_takeBackRefused : MethodName := ⟨RX2, "takeBackRefused", "()V"⟩
abbrev cX2_sendChoice : ByteArray := prog_4_method_14_code
def yX2_sendChoice : MethodName := ⟨RX2, "sendChoice", "()V"⟩
abbrev cX2_sendTo : ByteArray := prog_4_method_15_code
def yX2_sendTo : MethodName := ⟨RX2, "sendTo", "(LBookClub$Member;II)V"⟩
abbrev cX2_judgeDebts : ByteArray := prog_4_method_16_code
def yX2_judgeDebts : MethodName := ⟨RX2, "judgeDebts", "()V"⟩
abbrev cX2_judgeDebt : ByteArray := prog_4_method_17_code
def yX2_judgeDebt : MethodName := ⟨RX2, "judgeDebt", "(LBookClub$Member;III)V"⟩
abbrev cX2_beginNextMonth : ByteArray := prog_4_method_18_code
def yX2_beginNextMonth : MethodName := ⟨RX2, "beginNextMonth", "()V"⟩
abbrev cX2_inForceNow : ByteArray := prog_4_method_19_code
def yX2_inForceNow : MethodName := ⟨RX2, "inForceNow", "(I)I"⟩
abbrev cX2_write : ByteArray := prog_4_method_20_code
def yX2_write : MethodName := ⟨RX2, "write", "(LBookClub$Member;IJ)V"⟩
abbrev cX2_lagOf : ByteArray := prog_4_method_21_code
def yX2_lagOf : MethodName := ⟨RX2, "lagOf", "(I)I"⟩
abbrev cX2_isHouse : ByteArray := prog_4_method_22_code
def yX2_isHouse : MethodName := ⟨RX2, "isHouse", "(I)Z"⟩
def RX3 : String := "BookClub$Entry"
def TX3 : u_T := fun k => match k with
  | 0 => ("BookClub$Entry", "owner", "LBookClub$Member;", true)
  | 1 => ("BookClub$Entry", "month", "I", true)
  | 2 => ("BookClub$Entry", "sort", "I", true)
  | 3 => ("BookClub$Entry", "amount", "J", true)
  | _ => ("BookClub$Entry", "struckIn", "I", false)
def tyX3 : Nat → FieldType := fun k => match k with
  | 0 => .object "BookClub$Member"
  | 1 => .int
  | 2 => .int
  | 3 => .long
  | _ => .int
abbrev wsX30 : List Cond := u_ws RX3 TX3 5
theorem nmX3 : ∀ a, a < 5 → ∀ b, b < 5 → a ≠ b → (TX3 a).2.1 ≠ (TX3 b).2.1 := by decide +kernel
theorem tyX3_ok : ∀ k, k < 5 → parseFieldDescriptor (TX3 k).2.2.1 = some (tyX3 k) := by decide +kernel
abbrev cX3_init : ByteArray := prog_5_method_1_code
def yX3_init : MethodName := ⟨RX3, "<init>", "(LBookClub$Member;IIJ)V"⟩
abbrev cX3_strikeOut : ByteArray := prog_5_method_2_code
def yX3_strikeOut : MethodName := ⟨RX3, "strikeOut", "(I)Z"⟩
abbrev cX3_isStruckBy : ByteArray := prog_5_method_3_code
def yX3_isStruckBy : MethodName := ⟨RX3, "isStruckBy", "(I)Z"⟩
def RX4 : String := "BookClub$Jury"
def TX4 : u_T := fun k => match k with
  | 0 => ("BookClub$Jury", "marks", "[I", true)
  | 1 => ("BookClub$Jury", "kinships", "[Z", true)
  | _ => ("BookClub$Jury", "tally", "[I", true)
def tyX4 : Nat → FieldType := fun k => match k with
  | 0 => .array .int
  | 1 => .array .boolean
  | _ => .array .int
abbrev wsX40 : List Cond := u_ws RX4 TX4 3
theorem nmX4 : ∀ a, a < 3 → ∀ b, b < 3 → a ≠ b → (TX4 a).2.1 ≠ (TX4 b).2.1 := by decide +kernel
theorem tyX4_ok : ∀ k, k < 3 → parseFieldDescriptor (TX4 k).2.2.1 = some (tyX4 k) := by decide +kernel
abbrev cX4_init : ByteArray := prog_6_method_1_code
def yX4_init : MethodName := ⟨RX4, "<init>", "()V"⟩
abbrev cX4_setMark : ByteArray := prog_6_method_2_code
def yX4_setMark : MethodName := ⟨RX4, "setMark", "(III)Z"⟩
abbrev cX4_setKin : ByteArray := prog_6_method_3_code
def yX4_setKin : MethodName := ⟨RX4, "setKin", "(IIZ)Z"⟩
abbrev cX4_middleOf : ByteArray := prog_6_method_4_code
def yX4_middleOf : MethodName := ⟨RX4, "middleOf", "(I)I"⟩
abbrev cX4_bestBook : ByteArray := prog_6_method_5_code
def yX4_bestBook : MethodName := ⟨RX4, "bestBook", "()I"⟩
abbrev cX4_tallyMarks : ByteArray := prog_6_method_6_code
def yX4_tallyMarks : MethodName := ⟨RX4, "tallyMarks", "(I)I"⟩
abbrev cX4_leadOver : ByteArray := prog_6_method_7_code
def yX4_leadOver : MethodName := ⟨RX4, "leadOver", "(I)I"⟩
abbrev cX4_placeOf : ByteArray := prog_6_method_8_code
def yX4_placeOf : MethodName := ⟨RX4, "placeOf", "(II)I"⟩
abbrev cX4_isPair : ByteArray := prog_6_method_9_code
def yX4_isPair : MethodName := ⟨RX4, "isPair", "(II)Z"⟩
abbrev cX4_isBook : ByteArray := prog_6_method_10_code
def yX4_isBook : MethodName := ⟨RX4, "isBook", "(I)Z"⟩
def RX5 : String := "BookClub$Ledger"
def TX5 : u_T := fun k => match k with
  | _ => ("BookClub$Ledger", "entries", "Ljava/util/ArrayList;", true)
def tyX5 : Nat → FieldType := fun k => match k with
  | _ => .object "java/util/ArrayList"
abbrev wsX50 : List Cond := u_ws RX5 TX5 1
theorem nmX5 : ∀ a, a < 1 → ∀ b, b < 1 → a ≠ b → (TX5 a).2.1 ≠ (TX5 b).2.1 := by decide +kernel
theorem tyX5_ok : ∀ k, k < 1 → parseFieldDescriptor (TX5 k).2.2.1 = some (tyX5 k) := by decide +kernel
abbrev cX5_init : ByteArray := prog_7_method_1_code
def yX5_init : MethodName := ⟨RX5, "<init>", "()V"⟩
abbrev cX5_size : ByteArray := prog_7_method_2_code
def yX5_size : MethodName := ⟨RX5, "size", "()I"⟩
abbrev cX5_roomLeft : ByteArray := prog_7_method_3_code
def yX5_roomLeft : MethodName := ⟨RX5, "roomLeft", "()I"⟩
abbrev cX5_find : ByteArray := prog_7_method_4_code
def yX5_find : MethodName := ⟨RX5, "find", "(I)LBookClub$Entry;"⟩
abbrev cX5_write : ByteArray := prog_7_method_5_code
def yX5_write : MethodName := ⟨RX5, "write", "(LBookClub$Member;IIJ)V"⟩
abbrev cX5_sumKnown : ByteArray := prog_7_method_6_code
def yX5_sumKnown : MethodName := ⟨RX5, "sumKnown", "(LBookClub$Member;II)J"⟩
def RX6 : String := "BookClub$Member"
def TX6 : u_T := fun k => match k with
  | 0 => ("BookClub$Member", "number", "I", true)
  | 1 => ("BookClub$Member", "kind", "I", true)
  | 2 => ("BookClub$Member", "house", "I", false)
  | 3 => ("BookClub$Member", "state", "I", false)
  | 4 => ("BookClub$Member", "bought", "I", false)
  | 5 => ("BookClub$Member", "monthsOwing", "I", false)
  | 6 => ("BookClub$Member", "balance", "J", false)
  | 7 => ("BookClub$Member", "refusalDay", "I", false)
  | 8 => ("BookClub$Member", "wasSent", "Z", false)
  | 9 => ("BookClub$Member", "wasShort", "Z", false)
  | _ => ("BookClub$Member", "sendsBack", "Z", false)
def tyX6 : Nat → FieldType := fun k => match k with
  | 0 => .int
  | 1 => .int
  | 2 => .int
  | 3 => .int
  | 4 => .int
  | 5 => .int
  | 6 => .long
  | 7 => .int
  | 8 => .boolean
  | 9 => .boolean
  | _ => .boolean
abbrev wsX60 : List Cond := u_ws RX6 TX6 11
theorem nmX6 : ∀ a, a < 11 → ∀ b, b < 11 → a ≠ b → (TX6 a).2.1 ≠ (TX6 b).2.1 := by decide +kernel
theorem tyX6_ok : ∀ k, k < 11 → parseFieldDescriptor (TX6 k).2.2.1 = some (tyX6 k) := by decide +kernel
abbrev cX6_init : ByteArray := prog_8_method_1_code
def yX6_init : MethodName := ⟨RX6, "<init>", "(III)V"⟩
abbrev cX6_refusedInTime : ByteArray := prog_8_method_2_code
def yX6_refusedInTime : MethodName := ⟨RX6, "refusedInTime", "(I)Z"⟩
abbrev cX6_forgetLatestChoice : ByteArray := prog_8_method_3_code
def yX6_forgetLatestChoice : MethodName := ⟨RX6, "forgetLatestChoice", "()V"⟩
abbrev cX6_owesMoreThan : ByteArray := prog_8_method_4_code
def yX6_owesMoreThan : MethodName := ⟨RX6, "owesMoreThan", "(I)Z"⟩
abbrev cX6_owesNoLonger : ByteArray := prog_8_method_5_code
def yX6_owesNoLonger : MethodName := ⟨RX6, "owesNoLonger", "()V"⟩
def RX7 : String := "BookClub$RuleBook"
def TX7 : u_T := fun k => match k with
  | 0 => ("BookClub$RuleBook", "names", "[I", true)
  | 1 => ("BookClub$RuleBook", "values", "[I", true)
  | 2 => ("BookClub$RuleBook", "months", "[I", true)
  | 3 => ("BookClub$RuleBook", "count", "I", false)
  | _ => ("BookClub$RuleBook", "proposed", "I", false)
def tyX7 : Nat → FieldType := fun k => match k with
  | 0 => .array .int
  | 1 => .array .int
  | 2 => .array .int
  | 3 => .int
  | _ => .int
abbrev wsX70 : List Cond := u_ws RX7 TX7 5
theorem nmX7 : ∀ a, a < 5 → ∀ b, b < 5 → a ≠ b → (TX7 a).2.1 ≠ (TX7 b).2.1 := by decide +kernel
theorem tyX7_ok : ∀ k, k < 5 → parseFieldDescriptor (TX7 k).2.2.1 = some (tyX7 k) := by decide +kernel
abbrev cX7_init : ByteArray := prog_9_method_1_code
def yX7_init : MethodName := ⟨RX7, "<init>", "()V"⟩
abbrev cX7_isFull : ByteArray := prog_9_method_2_code
def yX7_isFull : MethodName := ⟨RX7, "isFull", "()Z"⟩
abbrev cX7_propose : ByteArray := prog_9_method_3_code
def yX7_propose : MethodName := ⟨RX7, "propose", "(III)V"⟩
abbrev cX7_acceptProposed : ByteArray := prog_9_method_4_code
def yX7_acceptProposed : MethodName := ⟨RX7, "acceptProposed", "()I"⟩
abbrev cX7_dropProposed : ByteArray := prog_9_method_5_code
def yX7_dropProposed : MethodName := ⟨RX7, "dropProposed", "()V"⟩
abbrev cX7_inForce : ByteArray := prog_9_method_6_code
def yX7_inForce : MethodName := ⟨RX7, "inForce", "(II)I"⟩
def RX8 : String := "BookClub$Tape"
def TX8 : u_T := fun k => match k with
  | 0 => ("BookClub$Tape", "bytes", "[I", true)
  | _ => ("BookClub$Tape", "length", "I", false)
def tyX8 : Nat → FieldType := fun k => match k with
  | 0 => .array .int
  | _ => .int
abbrev wsX80 : List Cond := u_ws RX8 TX8 2
theorem nmX8 : ∀ a, a < 2 → ∀ b, b < 2 → a ≠ b → (TX8 a).2.1 ≠ (TX8 b).2.1 := by decide +kernel
theorem tyX8_ok : ∀ k, k < 2 → parseFieldDescriptor (TX8 k).2.2.1 = some (tyX8 k) := by decide +kernel
abbrev cX8_init : ByteArray := prog_10_method_1_code
def yX8_init : MethodName := ⟨RX8, "<init>", "()V"⟩
abbrev cX8_hasRoomFor : ByteArray := prog_10_method_2_code
def yX8_hasRoomFor : MethodName := ⟨RX8, "hasRoomFor", "(I)Z"⟩
abbrev cX8_addNumber : ByteArray := prog_10_method_3_code
def yX8_addNumber : MethodName := ⟨RX8, "addNumber", "(I)V"⟩
abbrev cX8_addByte : ByteArray := prog_10_method_4_code
def yX8_addByte : MethodName := ⟨RX8, "addByte", "(I)V"⟩
abbrev cX8_cutTo : ByteArray := prog_10_method_5_code
def yX8_cutTo : MethodName := ⟨RX8, "cutTo", "(I)Z"⟩
abbrev cX8_byteAt : ByteArray := prog_10_method_6_code
def yX8_byteAt : MethodName := ⟨RX8, "byteAt", "(I)I"⟩
def RX9 : String := "BookClub$TextReader"
def TX9 : u_T := fun k => match k with
  | 0 => ("BookClub$TextReader", "tape", "LBookClub$Tape;", true)
  | 1 => ("BookClub$TextReader", "ruleBook", "LBookClub$RuleBook;", true)
  | 2 => ("BookClub$TextReader", "at", "I", false)
  | 3 => ("BookClub$TextReader", "fault", "I", false)
  | _ => ("BookClub$TextReader", "place", "I", false)
def tyX9 : Nat → FieldType := fun k => match k with
  | 0 => .object "BookClub$Tape"
  | 1 => .object "BookClub$RuleBook"
  | 2 => .int
  | 3 => .int
  | _ => .int
abbrev wsX90 : List Cond := u_ws RX9 TX9 5
theorem nmX9 : ∀ a, a < 5 → ∀ b, b < 5 → a ≠ b → (TX9 a).2.1 ≠ (TX9 b).2.1 := by decide +kernel
theorem tyX9_ok : ∀ k, k < 5 → parseFieldDescriptor (TX9 k).2.2.1 = some (tyX9 k) := by decide +kernel
abbrev cX9_init : ByteArray := prog_11_method_1_code
def yX9_init : MethodName := ⟨RX9, "<init>", "(LBookClub$Tape;LBookClub$RuleBook;)V"⟩
abbrev cX9_readText : ByteArray := prog_11_method_2_code
def yX9_readText : MethodName := ⟨RX9, "readText", "()I"⟩
abbrev cX9_readStatement : ByteArray := prog_11_method_3_code
def yX9_readStatement : MethodName := ⟨RX9, "readStatement", "()Z"⟩
abbrev cX9_readComma : ByteArray := prog_11_method_4_code
def yX9_readComma : MethodName := ⟨RX9, "readComma", "()Z"⟩
abbrev cX9_readName : ByteArray := prog_11_method_5_code
def yX9_readName : MethodName := ⟨RX9, "readName", "()I"⟩
abbrev cX9_readEquals : ByteArray := prog_11_method_6_code
def yX9_readEquals : MethodName := ⟨RX9, "readEquals", "()Z"⟩
abbrev cX9_readMonth : ByteArray := prog_11_method_7_code
def yX9_readMonth : MethodName := ⟨RX9, "readMonth", "()I"⟩
abbrev cX9_readNumber : ByteArray := prog_11_method_8_code
def yX9_readNumber : MethodName := ⟨RX9, "readNumber", "(I)I"⟩
abbrev cX9_nextSign : ByteArray := prog_11_method_9_code
def yX9_nextSign : MethodName := ⟨RX9, "nextSign", "()I"⟩
abbrev cX9_nameBetween : ByteArray := prog_11_method_10_code
def yX9_nameBetween : MethodName := ⟨RX9, "nameBetween", "(II)I"⟩
abbrev cX9_standsBetween : ByteArray := prog_11_method_11_code
def yX9_standsBetween : MethodName := ⟨RX9, "standsBetween", "(Ljava/lang/String;II)Z"⟩
abbrev cX9_wordOf : ByteArray := prog_11_method_12_code
def yX9_wordOf : MethodName := ⟨RX9, "wordOf", "(I)Ljava/lang/String;"⟩
abbrev cX9_fail : ByteArray := prog_11_method_13_code
def yX9_fail : MethodName := ⟨RX9, "fail", "(II)Z"⟩
def RX10 : String := "BookClub"
def TX10 : u_T := fun k => match k with
  | 0 => ("BookClub", "tape", "LBookClub$Tape;", true)
  | 1 => ("BookClub", "ruleBook", "LBookClub$RuleBook;", true)
  | 2 => ("BookClub", "reader", "LBookClub$TextReader;", true)
  | 3 => ("BookClub", "club", "LBookClub$Club;", true)
  | 4 => ("BookClub", "chances", "LBookClub$Chances;", true)
  | _ => ("BookClub", "jury", "LBookClub$Jury;", true)
def tyX10 : Nat → FieldType := fun k => match k with
  | 0 => .object "BookClub$Tape"
  | 1 => .object "BookClub$RuleBook"
  | 2 => .object "BookClub$TextReader"
  | 3 => .object "BookClub$Club"
  | 4 => .object "BookClub$Chances"
  | _ => .object "BookClub$Jury"
abbrev wsX100 : List Cond := u_ws RX10 TX10 6
theorem nmX10 : ∀ a, a < 6 → ∀ b, b < 6 → a ≠ b → (TX10 a).2.1 ≠ (TX10 b).2.1 := by decide +kernel
theorem tyX10_ok : ∀ k, k < 6 → parseFieldDescriptor (TX10 k).2.2.1 = some (tyX10 k) := by decide +kernel
abbrev cX10_init : ByteArray := prog_1_method_1_code
def yX10_init : MethodName := ⟨RX10, "<init>", "()V"⟩
abbrev cX10_feed : ByteArray := prog_1_method_2_code
def yX10_feed : MethodName := ⟨RX10, "feed", "(IIIII)I"⟩
abbrev cX10_end : ByteArray := prog_1_method_3_code
def yX10_end : MethodName := ⟨RX10, "end", "(I)Z"⟩
abbrev cX10_rules : ByteArray := prog_1_method_4_code
def yX10_rules : MethodName := ⟨RX10, "rules", "()I"⟩
abbrev cX10_fault : ByteArray := prog_1_method_5_code
def yX10_fault : MethodName := ⟨RX10, "fault", "(I)I"⟩
abbrev cX10_rule : ByteArray := prog_1_method_6_code
def yX10_rule : MethodName := ⟨RX10, "rule", "(II)I"⟩
abbrev cX10_lag : ByteArray := prog_1_method_7_code
def yX10_lag : MethodName := ⟨RX10, "lag", "(II)Z"⟩
abbrev cX10_join : ByteArray := prog_1_method_8_code
def yX10_join : MethodName := ⟨RX10, "join", "(II)I"⟩
abbrev cX10_move : ByteArray := prog_1_method_9_code
def yX10_move : MethodName := ⟨RX10, "move", "(II)Z"⟩
abbrev cX10_pay : ByteArray := prog_1_method_10_code
def yX10_pay : MethodName := ⟨RX10, "pay", "(II)J"⟩
abbrev cX10_leave : ByteArray := prog_1_method_11_code
def yX10_leave : MethodName := ⟨RX10, "leave", "(I)J"⟩
abbrev cX10_member : ByteArray := prog_1_method_12_code
def yX10_member : MethodName := ⟨RX10, "member", "(II)J"⟩
abbrev cX10_choice : ByteArray := prog_1_method_13_code
def yX10_choice : MethodName := ⟨RX10, "choice", "(II)I"⟩
abbrev cX10_refuse : ByteArray := prog_1_method_14_code
def yX10_refuse : MethodName := ⟨RX10, "refuse", "(II)I"⟩
abbrev cX10_close : ByteArray := prog_1_method_15_code
def yX10_close : MethodName := ⟨RX10, "close", "()I"⟩
abbrev cX10_clear : ByteArray := prog_1_method_16_code
def yX10_clear : MethodName := ⟨RX10, "clear", "(III)I"⟩
abbrev cX10_book : ByteArray := prog_1_method_17_code
def yX10_book : MethodName := ⟨RX10, "book", "(II)I"⟩
abbrev cX10_count : ByteArray := prog_1_method_18_code
def yX10_count : MethodName := ⟨RX10, "count", "(I)I"⟩
abbrev cX10_entry : ByteArray := prog_1_method_19_code
def yX10_entry : MethodName := ⟨RX10, "entry", "(II)J"⟩
abbrev cX10_strike : ByteArray := prog_1_method_20_code
def yX10_strike : MethodName := ⟨RX10, "strike", "(I)Z"⟩
abbrev cX10_balance : ByteArray := prog_1_method_21_code
def yX10_balance : MethodName := ⟨RX10, "balance", "(III)J"⟩
abbrev cX10_chance : ByteArray := prog_1_method_22_code
def yX10_chance : MethodName := ⟨RX10, "chance", "(II)Z"⟩
abbrev cX10_ways : ByteArray := prog_1_method_23_code
def yX10_ways : MethodName := ⟨RX10, "ways", "(III)J"⟩
abbrev cX10_print : ByteArray := prog_1_method_24_code
def yX10_print : MethodName := ⟨RX10, "print", "(IIII)I"⟩
abbrev cX10_mark : ByteArray := prog_1_method_25_code
def yX10_mark : MethodName := ⟨RX10, "mark", "(III)Z"⟩
abbrev cX10_kin : ByteArray := prog_1_method_26_code
def yX10_kin : MethodName := ⟨RX10, "kin", "(IIZ)Z"⟩
abbrev cX10_middle : ByteArray := prog_1_method_27_code
def yX10_middle : MethodName := ⟨RX10, "middle", "(I)I"⟩
abbrev cX10_winner : ByteArray := prog_1_method_28_code
def yX10_winner : MethodName := ⟨RX10, "winner", "()I"⟩
abbrev cX10_isWithin : ByteArray := prog_1_method_29_code
def yX10_isWithin : MethodName := ⟨RX10, "isWithin", "(III)Z"⟩
def RX11 : String := "BookClubModel"
def TX11 : u_T := fun k => match k with
  | 0 => ("BookClubModel", "tape", "[I", true)
  | 1 => ("BookClubModel", "taped", "I", false)
  | 2 => ("BookClubModel", "faultKind", "I", false)
  | 3 => ("BookClubModel", "faultPlace", "I", false)
  | 4 => ("BookClubModel", "ruleName", "[I", true)
  | 5 => ("BookClubModel", "ruleValue", "[I", true)
  | 6 => ("BookClubModel", "ruleFrom", "[I", true)
  | 7 => ("BookClubModel", "rules", "I", false)
  | 8 => ("BookClubModel", "lags", "[I", true)
  | 9 => ("BookClubModel", "hadGift", "[Z", true)
  | 10 => ("BookClubModel", "kind", "[I", true)
  | 11 => ("BookClubModel", "house", "[I", true)
  | 12 => ("BookClubModel", "state", "[I", true)
  | 13 => ("BookClubModel", "bought", "[I", true)
  | 14 => ("BookClubModel", "owing", "[I", true)
  | 15 => ("BookClubModel", "refusal", "[I", true)
  | 16 => ("BookClubModel", "sentLast", "[Z", true)
  | 17 => ("BookClubModel", "shortLast", "[Z", true)
  | 18 => ("BookClubModel", "refusedLast", "[Z", true)
  | 19 => ("BookClubModel", "members", "I", false)
  | 20 => ("BookClubModel", "month", "I", false)
  | 21 => ("BookClubModel", "books", "[I", true)
  | 22 => ("BookClubModel", "entryMember", "[I", true)
  | 23 => ("BookClubModel", "entryMonth", "[I", true)
  | 24 => ("BookClubModel", "entrySort", "[I", true)
  | 25 => ("BookClubModel", "entryAmount", "[J", true)
  | 26 => ("BookClubModel", "struck", "[I", true)
  | 27 => ("BookClubModel", "entries", "I", false)
  | 28 => ("BookClubModel", "chances", "[I", true)
  | 29 => ("BookClubModel", "marks", "[I", true)
  | 30 => ("BookClubModel", "isKin", "[Z", true)
  | 31 => ("BookClubModel", "thrown", "I", false)
  | 32 => ("BookClubModel", "at", "I", false)
  | 33 => ("BookClubModel", "size", "I", false)
  | _ => ("BookClubModel", "number", "I", false)
def tyX11 : Nat → FieldType := fun k => match k with
  | 0 => .array .int
  | 1 => .int
  | 2 => .int
  | 3 => .int
  | 4 => .array .int
  | 5 => .array .int
  | 6 => .array .int
  | 7 => .int
  | 8 => .array .int
  | 9 => .array .boolean
  | 10 => .array .int
  | 11 => .array .int
  | 12 => .array .int
  | 13 => .array .int
  | 14 => .array .int
  | 15 => .array .int
  | 16 => .array .boolean
  | 17 => .array .boolean
  | 18 => .array .boolean
  | 19 => .int
  | 20 => .int
  | 21 => .array .int
  | 22 => .array .int
  | 23 => .array .int
  | 24 => .array .int
  | 25 => .array .long
  | 26 => .array .int
  | 27 => .int
  | 28 => .array .int
  | 29 => .array .int
  | 30 => .array .boolean
  | 31 => .int
  | 32 => .int
  | 33 => .int
  | _ => .int
abbrev wsX110 : List Cond := u_ws RX11 TX11 35
theorem nmX11 : ∀ a, a < 35 → ∀ b, b < 35 → a ≠ b → (TX11 a).2.1 ≠ (TX11 b).2.1 := by decide +kernel
theorem tyX11_ok : ∀ k, k < 35 → parseFieldDescriptor (TX11 k).2.2.1 = some (tyX11 k) := by decide +kernel
abbrev cX11_init : ByteArray := prog_13_method_1_code
def yX11_init : MethodName := ⟨RX11, "<init>", "()V"⟩
abbrev cX11_thrown : ByteArray := prog_13_method_2_code
def yX11_thrown : MethodName := ⟨RX11, "thrown", "()I"⟩
abbrev cX11_in : ByteArray := prog_13_method_3_code
def yX11_in : MethodName := ⟨RX11, "in", "(III)Z"⟩
abbrev cX11_isMember : ByteArray := prog_13_method_4_code
def yX11_isMember : MethodName := ⟨RX11, "isMember", "(I)Z"⟩
abbrev cX11_lay : ByteArray := prog_13_method_5_code
def yX11_lay : MethodName := ⟨RX11, "lay", "(I)V"⟩
abbrev cX11_feed : ByteArray := prog_13_method_6_code
def yX11_feed : MethodName := ⟨RX11, "feed", "(IIIII)I"⟩
abbrev cX11_end : ByteArray := prog_13_method_7_code
def yX11_end : MethodName := ⟨RX11, "end", "(I)Z"⟩
abbrev cX11_here : ByteArray := prog_13_method_8_code
def yX11_here : MethodName := ⟨RX11, "here", "()I"⟩
abbrev cX11_blanks : ByteArray := prog_13_method_9_code
def yX11_blanks : MethodName := ⟨RX11, "blanks", "()V"⟩
abbrev cX11_fails : ByteArray := prog_13_method_10_code
def yX11_fails : MethodName := ⟨RX11, "fails", "(II)Z"⟩
abbrev cX11_nameAt : ByteArray := prog_13_method_11_code
def yX11_nameAt : MethodName := ⟨RX11, "nameAt", "(II)I"⟩
abbrev cX11_readNumber : ByteArray := prog_13_method_12_code
def yX11_readNumber : MethodName := ⟨RX11, "readNumber", "(I)Z"⟩
abbrev cX11_readStatement : ByteArray := prog_13_method_13_code
def yX11_readStatement : MethodName := ⟨RX11, "readStatement", "(I)Z"⟩
abbrev cX11_rules : ByteArray := prog_13_method_14_code
def yX11_rules : MethodName := ⟨RX11, "rules", "()I"⟩
abbrev cX11_fault : ByteArray := prog_13_method_15_code
def yX11_fault : MethodName := ⟨RX11, "fault", "(I)I"⟩
abbrev cX11_ruleOf : ByteArray := prog_13_method_16_code
def yX11_ruleOf : MethodName := ⟨RX11, "ruleOf", "(II)I"⟩
abbrev cX11_rule : ByteArray := prog_13_method_17_code
def yX11_rule : MethodName := ⟨RX11, "rule", "(II)I"⟩
abbrev cX11_enter : ByteArray := prog_13_method_18_code
def yX11_enter : MethodName := ⟨RX11, "enter", "(IIJ)V"⟩
abbrev cX11_balanceOf : ByteArray := prog_13_method_19_code
def yX11_balanceOf : MethodName := ⟨RX11, "balanceOf", "(I)J"⟩
abbrev cX11_entry : ByteArray := prog_13_method_20_code
def yX11_entry : MethodName := ⟨RX11, "entry", "(II)J"⟩
abbrev cX11_strike : ByteArray := prog_13_method_21_code
def yX11_strike : MethodName := ⟨RX11, "strike", "(I)Z"⟩
abbrev cX11_balance : ByteArray := prog_13_method_22_code
def yX11_balance : MethodName := ⟨RX11, "balance", "(III)J"⟩
abbrev cX11_lag : ByteArray := prog_13_method_23_code
def yX11_lag : MethodName := ⟨RX11, "lag", "(II)Z"⟩
abbrev cX11_join : ByteArray := prog_13_method_24_code
def yX11_join : MethodName := ⟨RX11, "join", "(II)I"⟩
abbrev cX11_move : ByteArray := prog_13_method_25_code
def yX11_move : MethodName := ⟨RX11, "move", "(II)Z"⟩
abbrev cX11_owes : ByteArray := prog_13_method_26_code
def yX11_owes : MethodName := ⟨RX11, "owes", "(I)Z"⟩
abbrev cX11_pay : ByteArray := prog_13_method_27_code
def yX11_pay : MethodName := ⟨RX11, "pay", "(II)J"⟩
abbrev cX11_leave : ByteArray := prog_13_method_28_code
def yX11_leave : MethodName := ⟨RX11, "leave", "(I)J"⟩
abbrev cX11_member : ByteArray := prog_13_method_29_code
def yX11_member : MethodName := ⟨RX11, "member", "(II)J"⟩
abbrev cX11_choice : ByteArray := prog_13_method_30_code
def yX11_choice : MethodName := ⟨RX11, "choice", "(II)I"⟩
abbrev cX11_refuse : ByteArray := prog_13_method_31_code
def yX11_refuse : MethodName := ⟨RX11, "refuse", "(II)I"⟩
abbrev cX11_takeBack : ByteArray := prog_13_method_32_code
def yX11_takeBack : MethodName := ⟨RX11, "takeBack", "()V"⟩
abbrev cX11_sendAll : ByteArray := prog_13_method_33_code
def yX11_sendAll : MethodName := ⟨RX11, "sendAll", "()I"⟩
abbrev cX11_dun : ByteArray := prog_13_method_34_code
def yX11_dun : MethodName := ⟨RX11, "dun", "()V"⟩
abbrev cX11_close : ByteArray := prog_13_method_35_code
def yX11_close : MethodName := ⟨RX11, "close", "()I"⟩
abbrev cX11_clear : ByteArray := prog_13_method_36_code
def yX11_clear : MethodName := ⟨RX11, "clear", "(III)I"⟩
abbrev cX11_book : ByteArray := prog_13_method_37_code
def yX11_book : MethodName := ⟨RX11, "book", "(II)I"⟩
abbrev cX11_count : ByteArray := prog_13_method_38_code
def yX11_count : MethodName := ⟨RX11, "count", "(I)I"⟩
abbrev cX11_chance : ByteArray := prog_13_method_39_code
def yX11_chance : MethodName := ⟨RX11, "chance", "(II)Z"⟩
abbrev cX11_areKinds : ByteArray := prog_13_method_40_code
def yX11_areKinds : MethodName := ⟨RX11, "areKinds", "(II)Z"⟩
abbrev cX11_waysOf : ByteArray := prog_13_method_41_code
def yX11_waysOf : MethodName := ⟨RX11, "waysOf", "(III)J"⟩
abbrev cX11_ways : ByteArray := prog_13_method_42_code
def yX11_ways : MethodName := ⟨RX11, "ways", "(III)J"⟩
abbrev cX11_print : ByteArray := prog_13_method_43_code
def yX11_print : MethodName := ⟨RX11, "print", "(IIII)I"⟩
abbrev cX11_isPair : ByteArray := prog_13_method_44_code
def yX11_isPair : MethodName := ⟨RX11, "isPair", "(II)Z"⟩
abbrev cX11_mark : ByteArray := prog_13_method_45_code
def yX11_mark : MethodName := ⟨RX11, "mark", "(III)Z"⟩
abbrev cX11_kin : ByteArray := prog_13_method_46_code
def yX11_kin : MethodName := ⟨RX11, "kin", "(IIZ)Z"⟩
abbrev cX11_marked : ByteArray := prog_13_method_47_code
def yX11_marked : MethodName := ⟨RX11, "marked", "(III)I"⟩
abbrev cX11_middleOf : ByteArray := prog_13_method_48_code
def yX11_middleOf : MethodName := ⟨RX11, "middleOf", "(I)I"⟩
abbrev cX11_middle : ByteArray := prog_13_method_49_code
def yX11_middle : MethodName := ⟨RX11, "middle", "(I)I"⟩
abbrev cX11_winner : ByteArray := prog_13_method_50_code
def yX11_winner : MethodName := ⟨RX11, "winner", "()I"⟩
def RJx145de : String := "java/io/Serializable"
def TJx145de : u_T := fun k => match k with
  | _ => ("", "", "", false)
def tyJx145de : Nat → FieldType := fun k => match k with
  | _ => .int
abbrev wsJx145de0 : List Cond := u_ws RJx145de TJx145de 0
theorem nmJx145de : ∀ a, a < 0 → ∀ b, b < 0 → a ≠ b → (TJx145de a).2.1 ≠ (TJx145de b).2.1 := by decide +kernel
theorem tyJx145de_ok : ∀ k, k < 0 → parseFieldDescriptor (TJx145de k).2.2.1 = some (tyJx145de k) := by decide +kernel
def RJ11 : String := "java/lang/Character"
def TJ11 : u_T := fun k => match k with
  | _ => ("", "", "", false)
def tyJ11 : Nat → FieldType := fun k => match k with
  | _ => .int
abbrev wsJ110 : List Cond := u_ws RJ11 TJ11 0
theorem nmJ11 : ∀ a, a < 0 → ∀ b, b < 0 → a ≠ b → (TJ11 a).2.1 ≠ (TJ11 b).2.1 := by decide +kernel
theorem tyJ11_ok : ∀ k, k < 0 → parseFieldDescriptor (TJ11 k).2.2.1 = some (tyJ11 k) := by decide +kernel
abbrev cJ11_isValidCodePoint_9a6ad : ByteArray := prog_15_method_11_code
def yJ11_isValidCodePoint_9a6ad : MethodName := ⟨RJ11, "isValidCodePoint", "(I)Z"⟩
abbrev cJ11_highSurrogate_5068e : ByteArray := prog_15_method_28_code
def yJ11_highSurrogate_5068e : MethodName := ⟨RJ11, "highSurrogate", "(I)C"⟩
abbrev cJ11_lowSurrogate_5068e : ByteArray := prog_15_method_29_code
def yJ11_lowSurrogate_5068e : MethodName := ⟨RJ11, "lowSurrogate", "(I)C"⟩
def RJx8e188 : String := "java/lang/Cloneable"
def TJx8e188 : u_T := fun k => match k with
  | _ => ("", "", "", false)
def tyJx8e188 : Nat → FieldType := fun k => match k with
  | _ => .int
abbrev wsJx8e1880 : List Cond := u_ws RJx8e188 TJx8e188 0
theorem nmJx8e188 : ∀ a, a < 0 → ∀ b, b < 0 → a ≠ b → (TJx8e188 a).2.1 ≠ (TJx8e188 b).2.1 := by decide +kernel
theorem tyJx8e188_ok : ∀ k, k < 0 → parseFieldDescriptor (TJx8e188 k).2.2.1 = some (tyJx8e188 k) := by decide +kernel
def RJ6 : String := "java/lang/Integer"
def TJ6 : u_T := fun k => match k with
  | _ => ("", "", "", false)
def tyJ6 : Nat → FieldType := fun k => match k with
  | _ => .int
abbrev wsJ60 : List Cond := u_ws RJ6 TJ6 0
theorem nmJ6 : ∀ a, a < 0 → ∀ b, b < 0 → a ≠ b → (TJ6 a).2.1 ≠ (TJ6 b).2.1 := by decide +kernel
theorem tyJ6_ok : ∀ k, k < 0 → parseFieldDescriptor (TJ6 k).2.2.1 = some (tyJ6 k) := by decide +kernel
abbrev cJ6_bitCount_0f7a4 : ByteArray := prog_18_method_49_code
def yJ6_bitCount_0f7a4 : MethodName := ⟨RJ6, "bitCount", "(I)I"⟩
def RJxab1ab : String := "java/lang/Iterable"
def TJxab1ab : u_T := fun k => match k with
  | _ => ("", "", "", false)
def tyJxab1ab : Nat → FieldType := fun k => match k with
  | _ => .int
abbrev wsJxab1ab0 : List Cond := u_ws RJxab1ab TJxab1ab 0
theorem nmJxab1ab : ∀ a, a < 0 → ∀ b, b < 0 → a ≠ b → (TJxab1ab a).2.1 ≠ (TJxab1ab b).2.1 := by decide +kernel
theorem tyJxab1ab_ok : ∀ k, k < 0 → parseFieldDescriptor (TJxab1ab k).2.2.1 = some (tyJxab1ab k) := by decide +kernel
def RJ9 : String := "java/lang/Math"
def TJ9 : u_T := fun k => match k with
  | _ => ("", "", "", false)
def tyJ9 : Nat → FieldType := fun k => match k with
  | _ => .int
abbrev wsJ90 : List Cond := u_ws RJ9 TJ9 0
theorem nmJ9 : ∀ a, a < 0 → ∀ b, b < 0 → a ≠ b → (TJ9 a).2.1 ≠ (TJ9 b).2.1 := by decide +kernel
theorem tyJ9_ok : ∀ k, k < 0 → parseFieldDescriptor (TJ9 k).2.2.1 = some (tyJ9 k) := by decide +kernel
abbrev cJ9_max_7cf53 : ByteArray := prog_20_method_65_code
def yJ9_max_7cf53 : MethodName := ⟨RJ9, "max", "(II)I"⟩
abbrev cJ9_min_7cf53 : ByteArray := prog_20_method_69_code
def yJ9_min_7cf53 : MethodName := ⟨RJ9, "min", "(II)I"⟩
def RJ0 : String := "java/lang/String"
def TJ0 : u_T := fun k => match k with
  | _ => ("", "", "", false)
def tyJ0 : Nat → FieldType := fun k => match k with
  | _ => .int
abbrev wsJ00 : List Cond := u_ws RJ0 TJ0 0
theorem nmJ0 : ∀ a, a < 0 → ∀ b, b < 0 → a ≠ b → (TJ0 a).2.1 ≠ (TJ0 b).2.1 := by decide +kernel
theorem tyJ0_ok : ∀ k, k < 0 → parseFieldDescriptor (TJ0 k).2.2.1 = some (tyJ0 k) := by decide +kernel
abbrev cJ0_length_8abf5 : ByteArray := prog_22_method_54_code
def yJ0_length_8abf5 : MethodName := ⟨RJ0, "length", "()I"⟩
abbrev cJ0_charAt_5068e : ByteArray := prog_22_method_56_code
def yJ0_charAt_5068e : MethodName := ⟨RJ0, "charAt", "(I)C"⟩
abbrev cJ0_indexOf_7cf53 : ByteArray := prog_22_method_80_code
def yJ0_indexOf_7cf53 : MethodName := ⟨RJ0, "indexOf", "(II)I"⟩
abbrev cJ0_coder_7d493 : ByteArray := prog_22_method_152_code
def yJ0_coder_7d493 : MethodName := ⟨RJ0, "coder", "()B"⟩
abbrev cJ0_isLatin1_aae02 : ByteArray := prog_22_method_154_code
def yJ0_isLatin1_aae02 : MethodName := ⟨RJ0, "isLatin1", "()Z"⟩
abbrev cJ0_checkIndex_df160 : ByteArray := prog_22_method_155_code
def yJ0_checkIndex_df160 : MethodName := ⟨RJ0, "checkIndex", "(II)V"⟩
abbrev cJ0_checkBoundsBeginEnd_23922 : ByteArray := prog_22_method_158_code
def yJ0_checkBoundsBeginEnd_23922 : MethodName := ⟨RJ0, "checkBoundsBeginEnd", "(III)V"⟩
def RJ1 : String := "java/lang/StringLatin1"
def TJ1 : u_T := fun k => match k with
  | _ => ("", "", "", false)
def tyJ1 : Nat → FieldType := fun k => match k with
  | _ => .int
abbrev wsJ10 : List Cond := u_ws RJ1 TJ1 0
theorem nmJ1 : ∀ a, a < 0 → ∀ b, b < 0 → a ≠ b → (TJ1 a).2.1 ≠ (TJ1 b).2.1 := by decide +kernel
theorem tyJ1_ok : ∀ k, k < 0 → parseFieldDescriptor (TJ1 k).2.2.1 = some (tyJ1 k) := by decide +kernel
abbrev cJ1_charAt_3b067 : ByteArray := prog_23_method_2_code
def yJ1_charAt_3b067 : MethodName := ⟨RJ1, "charAt", "([BI)C"⟩
abbrev cJ1_canEncode_9a6ad : ByteArray := prog_23_method_4_code
def yJ1_canEncode_9a6ad : MethodName := ⟨RJ1, "canEncode", "(I)Z"⟩
abbrev cJ1_indexOf_4cfef : ByteArray := prog_23_method_22_code
def yJ1_indexOf_4cfef : MethodName := ⟨RJ1, "indexOf", "([BIII)I"⟩
abbrev cJ1_indexOfChar_4cfef : ByteArray := prog_23_method_23_code
def yJ1_indexOfChar_4cfef : MethodName := ⟨RJ1, "indexOfChar", "([BIII)I"⟩
def RJ2 : String := "java/lang/StringUTF16"
def TJ2 : u_T := fun k => match k with
  | _ => ("", "", "", false)
def tyJ2 : Nat → FieldType := fun k => match k with
  | _ => .int
abbrev wsJ20 : List Cond := u_ws RJ2 TJ2 0
theorem nmJ2 : ∀ a, a < 0 → ∀ b, b < 0 → a ≠ b → (TJ2 a).2.1 ≠ (TJ2 b).2.1 := by decide +kernel
theorem tyJ2_ok : ∀ k, k < 0 → parseFieldDescriptor (TJ2 k).2.2.1 = some (tyJ2 k) := by decide +kernel
abbrev cJ2_getChar_3b067 : ByteArray := prog_24_method_5_code
def yJ2_getChar_3b067 : MethodName := ⟨RJ2, "getChar", "([BI)C"⟩
abbrev cJ2_length_9d52b : ByteArray := prog_24_method_6_code
def yJ2_length_9d52b : MethodName := ⟨RJ2, "length", "([B)I"⟩
abbrev cJ2_indexOf_4cfef : ByteArray := prog_24_method_40_code
def yJ2_indexOf_4cfef : MethodName := ⟨RJ2, "indexOf", "([BIII)I"⟩
abbrev cJ2_indexOfChar_4cfef : ByteArray := prog_24_method_47_code
def yJ2_indexOfChar_4cfef : MethodName := ⟨RJ2, "indexOfChar", "([BIII)I"⟩
abbrev cJ2_indexOfCharUnsafe_4cfef : ByteArray := prog_24_method_48_code
def yJ2_indexOfCharUnsafe_4cfef : MethodName := ⟨RJ2, "indexOfCharUnsafe", "([BIII)I"⟩
abbrev cJ2_indexOfSupplementary_4cfef : ByteArray := prog_24_method_49_code
def yJ2_indexOfSupplementary_4cfef : MethodName := ⟨RJ2, "indexOfSupplementary", "([BIII)I"⟩
abbrev cJ2_charAt_3b067 : ByteArray := prog_24_method_83_code
def yJ2_charAt_3b067 : MethodName := ⟨RJ2, "charAt", "([BI)C"⟩
abbrev cJ2_checkIndex_2214a : ByteArray := prog_24_method_91_code
def yJ2_checkIndex_2214a : MethodName := ⟨RJ2, "checkIndex", "(I[B)V"⟩
abbrev cJ2_checkBoundsBeginEnd_d044e : ByteArray := prog_24_method_93_code
def yJ2_checkBoundsBeginEnd_d044e : MethodName := ⟨RJ2, "checkBoundsBeginEnd", "(II[B)V"⟩
def RJ10 : String := "java/lang/System"
def TJ10 : u_T := fun k => match k with
  | _ => ("", "", "", false)
def tyJ10 : Nat → FieldType := fun k => match k with
  | _ => .int
abbrev wsJ100 : List Cond := u_ws RJ10 TJ10 0
theorem nmJ10 : ∀ a, a < 0 → ∀ b, b < 0 → a ≠ b → (TJ10 a).2.1 ≠ (TJ10 b).2.1 := by decide +kernel
theorem tyJ10_ok : ∀ k, k < 0 → parseFieldDescriptor (TJ10 k).2.2.1 = some (tyJ10 k) := by decide +kernel
def RJxa1e45 : String := "java/util/AbstractCollection"
def TJxa1e45 : u_T := fun k => match k with
  | _ => ("", "", "", false)
def tyJxa1e45 : Nat → FieldType := fun k => match k with
  | _ => .int
abbrev wsJxa1e450 : List Cond := u_ws RJxa1e45 TJxa1e45 0
theorem nmJxa1e45 : ∀ a, a < 0 → ∀ b, b < 0 → a ≠ b → (TJxa1e45 a).2.1 ≠ (TJxa1e45 b).2.1 := by decide +kernel
theorem tyJxa1e45_ok : ∀ k, k < 0 → parseFieldDescriptor (TJxa1e45 k).2.2.1 = some (tyJxa1e45 k) := by decide +kernel
abbrev cJxa1e45_init_da8c8 : ByteArray := prog_27_method_1_code
def yJxa1e45_init_da8c8 : MethodName := ⟨RJxa1e45, "<init>", "()V"⟩
def RJxc12de : String := "java/util/AbstractList"
def TJxc12de : u_T := fun k => match k with
  | _ => ("", "", "", false)
def tyJxc12de : Nat → FieldType := fun k => match k with
  | _ => .int
abbrev wsJxc12de0 : List Cond := u_ws RJxc12de TJxc12de 0
theorem nmJxc12de : ∀ a, a < 0 → ∀ b, b < 0 → a ≠ b → (TJxc12de a).2.1 ≠ (TJxc12de b).2.1 := by decide +kernel
theorem tyJxc12de_ok : ∀ k, k < 0 → parseFieldDescriptor (TJxc12de k).2.2.1 = some (tyJxc12de k) := by decide +kernel
abbrev cJxc12de_init_da8c8 : ByteArray := prog_28_method_1_code
def yJxc12de_init_da8c8 : MethodName := ⟨RJxc12de, "<init>", "()V"⟩
def RJx4a65c : String := "java/util/ArrayList"
def TJx4a65c : u_T := fun k => match k with
  | 0 => ("java/util/AbstractList", "modCount", "I", false)
  | 1 => ("java/util/ArrayList", "elementData", "[Ljava/lang/Object;", false)
  | _ => ("java/util/ArrayList", "size", "I", false)
def tyJx4a65c : Nat → FieldType := fun k => match k with
  | 0 => .int
  | 1 => .array (.object "java/lang/Object")
  | _ => .int
abbrev wsJx4a65c0 : List Cond := u_ws RJx4a65c TJx4a65c 3
theorem nmJx4a65c : ∀ a, a < 3 → ∀ b, b < 3 → a ≠ b → (TJx4a65c a).2.1 ≠ (TJx4a65c b).2.1 := by decide +kernel
theorem tyJx4a65c_ok : ∀ k, k < 3 → parseFieldDescriptor (TJx4a65c k).2.2.1 = some (tyJx4a65c k) := by decide +kernel
abbrev cJx4a65c_init_da8c8 : ByteArray := prog_29_method_2_code
def yJx4a65c_init_da8c8 : MethodName := ⟨RJx4a65c, "<init>", "()V"⟩
abbrev cJx4a65c_grow_92f84 : ByteArray := prog_29_method_6_code
def yJx4a65c_grow_92f84 : MethodName := ⟨RJx4a65c, "grow", "(I)[Ljava/lang/Object;"⟩
abbrev cJx4a65c_grow_d5877 : ByteArray := prog_29_method_7_code
def yJx4a65c_grow_d5877 : MethodName := ⟨RJx4a65c, "grow", "()[Ljava/lang/Object;"⟩
abbrev cJx4a65c_size_8abf5 : ByteArray := prog_29_method_8_code
def yJx4a65c_size_8abf5 : MethodName := ⟨RJx4a65c, "size", "()I"⟩
abbrev cJx4a65c_elementData_915e3 : ByteArray := prog_29_method_18_code
def yJx4a65c_elementData_915e3 : MethodName := ⟨RJx4a65c, "elementData", "(I)Ljava/lang/Object;"⟩
abbrev cJx4a65c_get_915e3 : ByteArray := prog_29_method_20_code
def yJx4a65c_get_915e3 : MethodName := ⟨RJx4a65c, "get", "(I)Ljava/lang/Object;"⟩
abbrev cJx4a65c_add_72be8 : ByteArray := prog_29_method_24_code
def yJx4a65c_add_72be8 : MethodName := ⟨RJx4a65c, "add", "(Ljava/lang/Object;[Ljava/lang/Object;I)V"⟩
abbrev cJx4a65c_add_9ea2d : ByteArray := prog_29_method_25_code
def yJx4a65c_add_9ea2d : MethodName := ⟨RJx4a65c, "add", "(Ljava/lang/Object;)Z"⟩
def RJ7 : String := "java/util/Arrays"
def TJ7 : u_T := fun k => match k with
  | _ => ("", "", "", false)
def tyJ7 : Nat → FieldType := fun k => match k with
  | _ => .int
abbrev wsJ70 : List Cond := u_ws RJ7 TJ7 0
theorem nmJ7 : ∀ a, a < 0 → ∀ b, b < 0 → a ≠ b → (TJ7 a).2.1 ≠ (TJ7 b).2.1 := by decide +kernel
theorem tyJ7_ok : ∀ k, k < 0 → parseFieldDescriptor (TJ7 k).2.2.1 = some (tyJ7 k) := by decide +kernel
abbrev cJ7_fill_d0a16 : ByteArray := prog_30_method_101_code
def yJ7_fill_d0a16 : MethodName := ⟨RJ7, "fill", "([JJ)V"⟩
abbrev cJ7_fill_53178 : ByteArray := prog_30_method_103_code
def yJ7_fill_53178 : MethodName := ⟨RJ7, "fill", "([II)V"⟩
abbrev cJ7_copyOf_1904c : ByteArray := prog_30_method_119_code
def yJ7_copyOf_1904c : MethodName := ⟨RJ7, "copyOf", "([Ljava/lang/Object;I)[Ljava/lang/Object;"⟩
abbrev cJ7_copyOf_6403c : ByteArray := prog_30_method_120_code
def yJ7_copyOf_6403c : MethodName := ⟨RJ7, "copyOf", "([Ljava/lang/Object;ILjava/lang/Class;)[Ljava/lang/Object;"⟩
def RJx5ef63 : String := "java/util/Collection"
def TJx5ef63 : u_T := fun k => match k with
  | _ => ("", "", "", false)
def tyJx5ef63 : Nat → FieldType := fun k => match k with
  | _ => .int
abbrev wsJx5ef630 : List Cond := u_ws RJx5ef63 TJx5ef63 0
theorem nmJx5ef63 : ∀ a, a < 0 → ∀ b, b < 0 → a ≠ b → (TJx5ef63 a).2.1 ≠ (TJx5ef63 b).2.1 := by decide +kernel
theorem tyJx5ef63_ok : ∀ k, k < 0 → parseFieldDescriptor (TJx5ef63 k).2.2.1 = some (tyJx5ef63 k) := by decide +kernel
def RJxbd725 : String := "java/util/List"
def TJxbd725 : u_T := fun k => match k with
  | _ => ("", "", "", false)
def tyJxbd725 : Nat → FieldType := fun k => match k with
  | _ => .int
abbrev wsJxbd7250 : List Cond := u_ws RJxbd725 TJxbd725 0
theorem nmJxbd725 : ∀ a, a < 0 → ∀ b, b < 0 → a ≠ b → (TJxbd725 a).2.1 ≠ (TJxbd725 b).2.1 := by decide +kernel
theorem tyJxbd725_ok : ∀ k, k < 0 → parseFieldDescriptor (TJxbd725 k).2.2.1 = some (tyJxbd725 k) := by decide +kernel
def RJ15 : String := "java/util/Objects"
def TJ15 : u_T := fun k => match k with
  | _ => ("", "", "", false)
def tyJ15 : Nat → FieldType := fun k => match k with
  | _ => .int
abbrev wsJ150 : List Cond := u_ws RJ15 TJ15 0
theorem nmJ15 : ∀ a, a < 0 → ∀ b, b < 0 → a ≠ b → (TJ15 a).2.1 ≠ (TJ15 b).2.1 := by decide +kernel
theorem tyJ15_ok : ∀ k, k < 0 → parseFieldDescriptor (TJ15 k).2.2.1 = some (tyJ15 k) := by decide +kernel
abbrev cJ15_checkIndex_7cf53 : ByteArray := prog_34_method_17_code
def yJ15_checkIndex_7cf53 : MethodName := ⟨RJ15, "checkIndex", "(II)I"⟩
def RJxf0a74 : String := "java/util/RandomAccess"
def TJxf0a74 : u_T := fun k => match k with
  | _ => ("", "", "", false)
def tyJxf0a74 : Nat → FieldType := fun k => match k with
  | _ => .int
abbrev wsJxf0a740 : List Cond := u_ws RJxf0a74 TJxf0a74 0
theorem nmJxf0a74 : ∀ a, a < 0 → ∀ b, b < 0 → a ≠ b → (TJxf0a74 a).2.1 ≠ (TJxf0a74 b).2.1 := by decide +kernel
theorem tyJxf0a74_ok : ∀ k, k < 0 → parseFieldDescriptor (TJxf0a74 k).2.2.1 = some (tyJxf0a74 k) := by decide +kernel
def RJxa66e6 : String := "java/util/SequencedCollection"
def TJxa66e6 : u_T := fun k => match k with
  | _ => ("", "", "", false)
def tyJxa66e6 : Nat → FieldType := fun k => match k with
  | _ => .int
abbrev wsJxa66e60 : List Cond := u_ws RJxa66e6 TJxa66e6 0
theorem nmJxa66e6 : ∀ a, a < 0 → ∀ b, b < 0 → a ≠ b → (TJxa66e6 a).2.1 ≠ (TJxa66e6 b).2.1 := by decide +kernel
theorem tyJxa66e6_ok : ∀ k, k < 0 → parseFieldDescriptor (TJxa66e6 k).2.2.1 = some (tyJxa66e6 k) := by decide +kernel
def RJ8 : String := "jdk/internal/util/ArraysSupport"
def TJ8 : u_T := fun k => match k with
  | _ => ("", "", "", false)
def tyJ8 : Nat → FieldType := fun k => match k with
  | _ => .int
abbrev wsJ80 : List Cond := u_ws RJ8 TJ8 0
theorem nmJ8 : ∀ a, a < 0 → ∀ b, b < 0 → a ≠ b → (TJ8 a).2.1 ≠ (TJ8 b).2.1 := by decide +kernel
theorem tyJ8_ok : ∀ k, k < 0 → parseFieldDescriptor (TJ8 k).2.2.1 = some (tyJ8 k) := by decide +kernel
abbrev cJ8_newLength_cabcc : ByteArray := prog_37_method_27_code
def yJ8_newLength_cabcc : MethodName := ⟨RJ8, "newLength", "(III)I"⟩
abbrev cJ8_hugeLength_7cf53 : ByteArray := prog_37_method_28_code
def yJ8_hugeLength_7cf53 : MethodName := ⟨RJ8, "hugeLength", "(II)I"⟩
def RJ3 : String := "jdk/internal/util/Preconditions"
def TJ3 : u_T := fun k => match k with
  | _ => ("", "", "", false)
def tyJ3 : Nat → FieldType := fun k => match k with
  | _ => .int
abbrev wsJ30 : List Cond := u_ws RJ3 TJ3 0
theorem nmJ3 : ∀ a, a < 0 → ∀ b, b < 0 → a ≠ b → (TJ3 a).2.1 ≠ (TJ3 b).2.1 := by decide +kernel
theorem tyJ3_ok : ∀ k, k < 0 → parseFieldDescriptor (TJ3 k).2.2.1 = some (tyJ3 k) := by decide +kernel
abbrev cJ3_checkIndex_8e157 : ByteArray := prog_38_method_11_code
def yJ3_checkIndex_8e157 : MethodName := ⟨RJ3, "checkIndex", "(IILjava/util/function/BiFunction;)I"⟩
abbrev cJ3_checkFromToIndex_8c36e : ByteArray := prog_38_method_12_code
def yJ3_checkFromToIndex_8c36e : MethodName := ⟨RJ3, "checkFromToIndex", "(IIILjava/util/function/BiFunction;)I"⟩
def RL : String := "BookClubLaw"
abbrev cL_member : ByteArray := method_3_code
def yL_member : MethodName := ⟨RL, "member", "(LBookClub;II[J)I"⟩
abbrev cL_entry : ByteArray := method_4_code
def yL_entry : MethodName := ⟨RL, "entry", "(LBookClub;II[J)I"⟩
abbrev cL_balance : ByteArray := method_5_code
def yL_balance : MethodName := ⟨RL, "balance", "(LBookClub;III[J)I"⟩
abbrev cL_law : ByteArray := code
def yL_law : MethodName := ⟨RL, "law", "([I)Z"⟩
abbrev vwCl : List vw_C := [(RJx4a65c, TJx4a65c, 3), (RX0, TX0, 2), (RX1, TX1, 8), (RX2, TX2, 8), (RX3, TX3, 5), (RX4, TX4, 3), (RX5, TX5, 1), (RX6, TX6, 11), (RX7, TX7, 5), (RX8, TX8, 2), (RX9, TX9, 5), (RX10, TX10, 6), (RX11, TX11, 35)]
