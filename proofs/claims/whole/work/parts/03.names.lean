def RX0 : String := "TailorBench$Cloth"
def TX0 : u_T := fun k => match k with
  | 0 => ("TailorBench$Cloth", "stripe", "I", true)
  | 1 => ("TailorBench$Cloth", "isNap", "Z", true)
  | 2 => ("TailorBench$Cloth", "price", "I", true)
  | 3 => ("TailorBench$Cloth", "width", "D", false)
  | 4 => ("TailorBench$Cloth", "length", "D", false)
  | _ => ("TailorBench$Cloth", "shrink", "F", false)
def tyX0 : Nat → FieldType := fun k => match k with
  | 0 => .int
  | 1 => .boolean
  | 2 => .int
  | 3 => .double
  | 4 => .double
  | _ => .float
theorem nmX0 : ∀ a, a < 6 → ∀ b, b < 6 → a ≠ b → (TX0 a).2.1 ≠ (TX0 b).2.1 := by decide +kernel
theorem tyX0_ok : ∀ k, k < 6 → parseFieldDescriptor (TX0 k).2.2.1 = some (tyX0 k) := by decide +kernel
abbrev cX0_init : ByteArray := prog_2_method_1_code
def yX0_init : MethodName := ⟨RX0, "<init>", "(DDFIZI)V"⟩
abbrev cX0_leftByWashing : ByteArray := prog_2_method_2_code
def yX0_leftByWashing : MethodName := ⟨RX0, "leftByWashing", "()D"⟩
def RX1 : String := "TailorBench$Hand"
def TX1 : u_T := fun k => match k with
  | 0 => ("TailorBench$Hand", "pace", "F", true)
  | _ => ("TailorBench$Hand", "free", "D", false)
def tyX1 : Nat → FieldType := fun k => match k with
  | 0 => .float
  | _ => .double
theorem nmX1 : ∀ a, a < 2 → ∀ b, b < 2 → a ≠ b → (TX1 a).2.1 ≠ (TX1 b).2.1 := by decide +kernel
theorem tyX1_ok : ∀ k, k < 2 → parseFieldDescriptor (TX1 k).2.2.1 = some (tyX1 k) := by decide +kernel
abbrev cX1_init : ByteArray := prog_3_method_1_code
def yX1_init : MethodName := ⟨RX1, "<init>", "(F)V"⟩
def RX2 : String := "TailorBench$Order"
def TX2 : u_T := fun k => match k with
  | 0 => ("TailorBench$Order", "wearer", "LTailorBench$Person;", true)
  | 1 => ("TailorBench$Order", "style", "LTailorBench$Style;", true)
  | 2 => ("TailorBench$Order", "dueHour", "I", true)
  | 3 => ("TailorBench$Order", "bodies", "[D", true)
  | 4 => ("TailorBench$Order", "state", "I", false)
  | 5 => ("TailorBench$Order", "cloth", "I", false)
  | 6 => ("TailorBench$Order", "cost", "I", false)
  | 7 => ("TailorBench$Order", "hand", "I", false)
  | 8 => ("TailorBench$Order", "ready", "D", false)
  | _ => ("TailorBench$Order", "fitting", "I", false)
def tyX2 : Nat → FieldType := fun k => match k with
  | 0 => .object "TailorBench$Person"
  | 1 => .object "TailorBench$Style"
  | 2 => .int
  | 3 => .array .double
  | 4 => .int
  | 5 => .int
  | 6 => .int
  | 7 => .int
  | 8 => .double
  | _ => .int
theorem nmX2 : ∀ a, a < 10 → ∀ b, b < 10 → a ≠ b → (TX2 a).2.1 ≠ (TX2 b).2.1 := by decide +kernel
theorem tyX2_ok : ∀ k, k < 10 → parseFieldDescriptor (TX2 k).2.2.1 = some (tyX2 k) := by decide +kernel
abbrev cX2_init : ByteArray := prog_4_method_1_code
def yX2_init : MethodName := ⟨RX2, "<init>", "(LTailorBench$Person;LTailorBench$Style;I)V"⟩
abbrev cX2_keepCut : ByteArray := prog_4_method_2_code
def yX2_keepCut : MethodName := ⟨RX2, "keepCut", "(II)V"⟩
abbrev cX2_tightness : ByteArray := prog_4_method_3_code
def yX2_tightness : MethodName := ⟨RX2, "tightness", "(Z)D"⟩
abbrev cX2_judge : ByteArray := prog_4_method_4_code
def yX2_judge : MethodName := ⟨RX2, "judge", "()I"⟩
def RX3 : String := "TailorBench$Person"
def TX3 : u_T := fun k => match k with
  | 0 => ("TailorBench$Person", "number", "I", true)
  | 1 => ("TailorBench$Person", "chest", "I", false)
  | 2 => ("TailorBench$Person", "waist", "I", false)
  | 3 => ("TailorBench$Person", "hips", "I", false)
  | _ => ("TailorBench$Person", "height", "I", false)
def tyX3 : Nat → FieldType := fun k => match k with
  | 0 => .int
  | 1 => .int
  | 2 => .int
  | 3 => .int
  | _ => .int
theorem nmX3 : ∀ a, a < 5 → ∀ b, b < 5 → a ≠ b → (TX3 a).2.1 ≠ (TX3 b).2.1 := by decide +kernel
theorem tyX3_ok : ∀ k, k < 5 → parseFieldDescriptor (TX3 k).2.2.1 = some (tyX3 k) := by decide +kernel
abbrev cX3_init : ByteArray := prog_5_method_1_code
def yX3_init : MethodName := ⟨RX3, "<init>", "(IIIII)V"⟩
abbrev cX3_read : ByteArray := prog_5_method_2_code
def yX3_read : MethodName := ⟨RX3, "read", "(I)I"⟩
abbrev cX3_write : ByteArray := prog_5_method_3_code
def yX3_write : MethodName := ⟨RX3, "write", "(II)V"⟩
def RX4 : String := "TailorBench$Piece"
def TX4 : u_T := fun k => match k with
  | 0 => ("TailorBench$Piece", "across", "I", true)
  | 1 => ("TailorBench$Piece", "along", "I", true)
  | 2 => ("TailorBench$Piece", "ease", "D", true)
  | _ => ("TailorBench$Piece", "count", "I", true)
def tyX4 : Nat → FieldType := fun k => match k with
  | 0 => .int
  | 1 => .int
  | 2 => .double
  | _ => .int
theorem nmX4 : ∀ a, a < 4 → ∀ b, b < 4 → a ≠ b → (TX4 a).2.1 ≠ (TX4 b).2.1 := by decide +kernel
theorem tyX4_ok : ∀ k, k < 4 → parseFieldDescriptor (TX4 k).2.2.1 = some (tyX4 k) := by decide +kernel
abbrev cX4_init : ByteArray := prog_6_method_1_code
def yX4_init : MethodName := ⟨RX4, "<init>", "(IIDI)V"⟩
abbrev cX4_bodyFor : ByteArray := prog_6_method_2_code
def yX4_bodyFor : MethodName := ⟨RX4, "bodyFor", "(LTailorBench$Person;)D"⟩
abbrev cX4_tallFor : ByteArray := prog_6_method_3_code
def yX4_tallFor : MethodName := ⟨RX4, "tallFor", "(LTailorBench$Person;)D"⟩
abbrev cX4_partOf : ByteArray := prog_6_method_4_code
def yX4_partOf : MethodName := ⟨RX4, "partOf", "(LTailorBench$Person;I)D"⟩
def RX5 : String := "TailorBench$Style"
def TX5 : u_T := fun k => match k with
  | 0 => ("TailorBench$Style", "number", "I", true)
  | 1 => ("TailorBench$Style", "pieces", "[LTailorBench$Piece;", true)
  | 2 => ("TailorBench$Style", "pieceCount", "I", false)
  | 3 => ("TailorBench$Style", "partCount", "I", false)
  | _ => ("TailorBench$Style", "isOrdered", "Z", false)
def tyX5 : Nat → FieldType := fun k => match k with
  | 0 => .int
  | 1 => .array (.object "TailorBench$Piece")
  | 2 => .int
  | 3 => .int
  | _ => .boolean
theorem nmX5 : ∀ a, a < 5 → ∀ b, b < 5 → a ≠ b → (TX5 a).2.1 ≠ (TX5 b).2.1 := by decide +kernel
theorem tyX5_ok : ∀ k, k < 5 → parseFieldDescriptor (TX5 k).2.2.1 = some (tyX5 k) := by decide +kernel
abbrev cX5_init : ByteArray := prog_7_method_1_code
def yX5_init : MethodName := ⟨RX5, "<init>", "(I)V"⟩
def RX6 : String := "TailorBench$Table"
def TX6 : u_T := fun k => match k with
  | 0 => ("TailorBench$Table", "longs", "[D", true)
  | 1 => ("TailorBench$Table", "wides", "[D", true)
  | 2 => ("TailorBench$Table", "heights", "[D", true)
  | 3 => ("TailorBench$Table", "rooms", "[D", true)
  | 4 => ("TailorBench$Table", "laid", "I", false)
  | 5 => ("TailorBench$Table", "rowCount", "I", false)
  | 6 => ("TailorBench$Table", "turnedCount", "I", false)
  | 7 => ("TailorBench$Table", "needs", "D", false)
  | 8 => ("TailorBench$Table", "covered", "D", false)
  | 9 => ("TailorBench$Table", "width", "D", false)
  | _ => ("TailorBench$Table", "stripe", "I", false)
def tyX6 : Nat → FieldType := fun k => match k with
  | 0 => .array .double
  | 1 => .array .double
  | 2 => .array .double
  | 3 => .array .double
  | 4 => .int
  | 5 => .int
  | 6 => .int
  | 7 => .double
  | 8 => .double
  | 9 => .double
  | _ => .int
theorem nmX6 : ∀ a, a < 11 → ∀ b, b < 11 → a ≠ b → (TX6 a).2.1 ≠ (TX6 b).2.1 := by decide +kernel
theorem tyX6_ok : ∀ k, k < 11 → parseFieldDescriptor (TX6 k).2.2.1 = some (tyX6 k) := by decide +kernel
abbrev cX6_init : ByteArray := prog_8_method_1_code
def yX6_init : MethodName := ⟨RX6, "<init>", "()V"⟩
abbrev cX6_spread : ByteArray := prog_8_method_2_code
def yX6_spread : MethodName := ⟨RX6, "spread", "(LTailorBench$Order;LTailorBench$Order;LTailorBench$Cloth;)Z"⟩
abbrev cX6_waste : ByteArray := prog_8_method_3_code
def yX6_waste : MethodName := ⟨RX6, "waste", "()D"⟩
abbrev cX6_gather : ByteArray := prog_8_method_4_code
def yX6_gather : MethodName := ⟨RX6, "gather", "(LTailorBench$Order;LTailorBench$Cloth;)V"⟩
abbrev cX6_sortIn : ByteArray := prog_8_method_5_code
def yX6_sortIn : MethodName := ⟨RX6, "sortIn", "(DD)V"⟩
abbrev cX6_isAhead : ByteArray := prog_8_method_6_code
def yX6_isAhead : MethodName := ⟨RX6, "isAhead", "(DDI)Z"⟩
abbrev cX6_put : ByteArray := prog_8_method_7_code
def yX6_put : MethodName := ⟨RX6, "put", "(DDZ)Z"⟩
abbrev cX6_putIntoRow : ByteArray := prog_8_method_8_code
def yX6_putIntoRow : MethodName := ⟨RX6, "putIntoRow", "(DD)Z"⟩
abbrev cX6_putIntoNewRow : ByteArray := prog_8_method_9_code
def yX6_putIntoNewRow : MethodName := ⟨RX6, "putIntoNewRow", "(DD)Z"⟩
def RX7 : String := "TailorBench"
def TX7 : u_T := fun k => match k with
  | 0 => ("TailorBench", "cloths", "[LTailorBench$Cloth;", true)
  | 1 => ("TailorBench", "people", "[LTailorBench$Person;", true)
  | 2 => ("TailorBench", "styles", "[LTailorBench$Style;", true)
  | 3 => ("TailorBench", "hands", "[LTailorBench$Hand;", true)
  | 4 => ("TailorBench", "orders", "[LTailorBench$Order;", true)
  | 5 => ("TailorBench", "table", "LTailorBench$Table;", true)
  | 6 => ("TailorBench", "clothCount", "I", false)
  | 7 => ("TailorBench", "peopleCount", "I", false)
  | 8 => ("TailorBench", "styleCount", "I", false)
  | 9 => ("TailorBench", "handCount", "I", false)
  | 10 => ("TailorBench", "orderCount", "I", false)
  | 11 => ("TailorBench", "hour", "D", false)
  | 12 => ("TailorBench", "purse", "I", false)
  | 13 => ("TailorBench", "refused", "I", false)
  | _ => ("TailorBench", "isShut", "Z", false)
def tyX7 : Nat → FieldType := fun k => match k with
  | 0 => .array (.object "TailorBench$Cloth")
  | 1 => .array (.object "TailorBench$Person")
  | 2 => .array (.object "TailorBench$Style")
  | 3 => .array (.object "TailorBench$Hand")
  | 4 => .array (.object "TailorBench$Order")
  | 5 => .object "TailorBench$Table"
  | 6 => .int
  | 7 => .int
  | 8 => .int
  | 9 => .int
  | 10 => .int
  | 11 => .double
  | 12 => .int
  | 13 => .int
  | _ => .boolean
theorem nmX7 : ∀ a, a < 15 → ∀ b, b < 15 → a ≠ b → (TX7 a).2.1 ≠ (TX7 b).2.1 := by decide +kernel
theorem tyX7_ok : ∀ k, k < 15 → parseFieldDescriptor (TX7 k).2.2.1 = some (tyX7 k) := by decide +kernel
abbrev cX7_init : ByteArray := prog_1_method_1_code
def yX7_init : MethodName := ⟨RX7, "<init>", "()V"⟩
abbrev cX7_cloth : ByteArray := prog_1_method_2_code
def yX7_cloth : MethodName := ⟨RX7, "cloth", "(IIIIZI)I"⟩
abbrev cX7_wash : ByteArray := prog_1_method_3_code
def yX7_wash : MethodName := ⟨RX7, "wash", "(I)D"⟩
abbrev cX7_person : ByteArray := prog_1_method_4_code
def yX7_person : MethodName := ⟨RX7, "person", "(IIII)I"⟩
abbrev cX7_measure : ByteArray := prog_1_method_5_code
def yX7_measure : MethodName := ⟨RX7, "measure", "(III)I"⟩
abbrev cX7_style : ByteArray := prog_1_method_6_code
def yX7_style : MethodName := ⟨RX7, "style", "()I"⟩
abbrev cX7_piece : ByteArray := prog_1_method_7_code
def yX7_piece : MethodName := ⟨RX7, "piece", "(IIIII)I"⟩
abbrev cX7_hand : ByteArray := prog_1_method_8_code
def yX7_hand : MethodName := ⟨RX7, "hand", "(I)I"⟩
abbrev cX7_order : ByteArray := prog_1_method_9_code
def yX7_order : MethodName := ⟨RX7, "order", "(III)I"⟩
abbrev cX7_cut : ByteArray := prog_1_method_10_code
def yX7_cut : MethodName := ⟨RX7, "cut", "(III)D"⟩
abbrev cX7_sew : ByteArray := prog_1_method_11_code
def yX7_sew : MethodName := ⟨RX7, "sew", "(II)D"⟩
abbrev cX7_fit : ByteArray := prog_1_method_12_code
def yX7_fit : MethodName := ⟨RX7, "fit", "(I)I"⟩
abbrev cX7_give : ByteArray := prog_1_method_13_code
def yX7_give : MethodName := ⟨RX7, "give", "(I)I"⟩
abbrev cX7_pass : ByteArray := prog_1_method_14_code
def yX7_pass : MethodName := ⟨RX7, "pass", "(I)D"⟩
abbrev cX7_shut : ByteArray := prog_1_method_15_code
def yX7_shut : MethodName := ⟨RX7, "shut", "(Z)Z"⟩
abbrev cX7_bell : ByteArray := prog_1_method_16_code
def yX7_bell : MethodName := ⟨RX7, "bell", "()I"⟩
abbrev cX7_ofCloth : ByteArray := prog_1_method_17_code
def yX7_ofCloth : MethodName := ⟨RX7, "ofCloth", "(II)D"⟩
abbrev cX7_size : ByteArray := prog_1_method_18_code
def yX7_size : MethodName := ⟨RX7, "size", "(IIIZ)D"⟩
abbrev cX7_ofOrder : ByteArray := prog_1_method_19_code
def yX7_ofOrder : MethodName := ⟨RX7, "ofOrder", "(II)I"⟩
abbrev cX7_tight : ByteArray := prog_1_method_20_code
def yX7_tight : MethodName := ⟨RX7, "tight", "(IZ)D"⟩
abbrev cX7_ready : ByteArray := prog_1_method_21_code
def yX7_ready : MethodName := ⟨RX7, "ready", "(I)D"⟩
abbrev cX7_free : ByteArray := prog_1_method_22_code
def yX7_free : MethodName := ⟨RX7, "free", "(I)D"⟩
abbrev cX7_clock : ByteArray := prog_1_method_23_code
def yX7_clock : MethodName := ⟨RX7, "clock", "()D"⟩
abbrev cX7_many : ByteArray := prog_1_method_24_code
def yX7_many : MethodName := ⟨RX7, "many", "(I)I"⟩
abbrev cX7_lay : ByteArray := prog_1_method_25_code
def yX7_lay : MethodName := ⟨RX7, "lay", "(IIII)D"⟩
abbrev cX7_best : ByteArray := prog_1_method_26_code
def yX7_best : MethodName := ⟨RX7, "best", "(I)I"⟩
abbrev cX7_mate : ByteArray := prog_1_method_27_code
def yX7_mate : MethodName := ⟨RX7, "mate", "(II)I"⟩
abbrev cX7_soonest : ByteArray := prog_1_method_28_code
def yX7_soonest : MethodName := ⟨RX7, "soonest", "(I)I"⟩
abbrev cX7_digest : ByteArray := prog_1_method_29_code
def yX7_digest : MethodName := ⟨RX7, "digest", "()J"⟩
abbrev cX7_clothAt : ByteArray := prog_1_method_30_code
def yX7_clothAt : MethodName := ⟨RX7, "clothAt", "(I)LTailorBench$Cloth;"⟩
abbrev cX7_personAt : ByteArray := prog_1_method_31_code
def yX7_personAt : MethodName := ⟨RX7, "personAt", "(I)LTailorBench$Person;"⟩
abbrev cX7_styleAt : ByteArray := prog_1_method_32_code
def yX7_styleAt : MethodName := ⟨RX7, "styleAt", "(I)LTailorBench$Style;"⟩
abbrev cX7_handAt : ByteArray := prog_1_method_33_code
def yX7_handAt : MethodName := ⟨RX7, "handAt", "(I)LTailorBench$Hand;"⟩
abbrev cX7_orderAt : ByteArray := prog_1_method_34_code
def yX7_orderAt : MethodName := ⟨RX7, "orderAt", "(I)LTailorBench$Order;"⟩
abbrev cX7_otherAt : ByteArray := prog_1_method_35_code
def yX7_otherAt : MethodName := ⟨RX7, "otherAt", "(I)LTailorBench$Order;"⟩
abbrev cX7_spend : ByteArray := prog_1_method_36_code
def yX7_spend : MethodName := ⟨RX7, "spend", "(D)V"⟩
abbrev cX7_countInState : ByteArray := prog_1_method_37_code
def yX7_countInState : MethodName := ⟨RX7, "countInState", "(I)I"⟩
abbrev cX7_endOfSewing : ByteArray := prog_1_method_38_code
def yX7_endOfSewing : MethodName := ⟨RX7, "endOfSewing", "(LTailorBench$Order;LTailorBench$Hand;)D"⟩
abbrev cX7_savedBy : ByteArray := prog_1_method_39_code
def yX7_savedBy : MethodName := ⟨RX7, "savedBy", "(LTailorBench$Order;LTailorBench$Order;LTailorBench$Cloth;)D"⟩
abbrev cX7_costOf : ByteArray := prog_1_method_40_code
def yX7_costOf : MethodName := ⟨RX7, "costOf", "(LTailorBench$Cloth;D)I"⟩
abbrev cX7_isOutside : ByteArray := prog_1_method_41_code
def yX7_isOutside : MethodName := ⟨RX7, "isOutside", "(III)Z"⟩
abbrev cX7_isNoMeasure : ByteArray := prog_1_method_42_code
def yX7_isNoMeasure : MethodName := ⟨RX7, "isNoMeasure", "(I)Z"⟩
abbrev cX7_isNoPart : ByteArray := prog_1_method_43_code
def yX7_isNoPart : MethodName := ⟨RX7, "isNoPart", "(I)Z"⟩
abbrev cX7_nextWhole : ByteArray := prog_1_method_44_code
def yX7_nextWhole : MethodName := ⟨RX7, "nextWhole", "(D)D"⟩
abbrev cX7_mixed : ByteArray := prog_1_method_45_code
def yX7_mixed : MethodName := ⟨RX7, "mixed", "(JJ)J"⟩
abbrev cX7_in64ths : ByteArray := prog_1_method_46_code
def yX7_in64ths : MethodName := ⟨RX7, "in64ths", "(D)J"⟩
def RX8 : String := "TailorBenchModel$Cloth"
def TX8 : u_T := fun k => match k with
  | 0 => ("TailorBenchModel$Cloth", "width", "D", false)
  | 1 => ("TailorBenchModel$Cloth", "length", "D", false)
  | 2 => ("TailorBenchModel$Cloth", "shrink", "F", false)
  | 3 => ("TailorBenchModel$Cloth", "stripe", "I", false)
  | 4 => ("TailorBenchModel$Cloth", "isNap", "Z", false)
  | _ => ("TailorBenchModel$Cloth", "price", "I", false)
def tyX8 : Nat → FieldType := fun k => match k with
  | 0 => .double
  | 1 => .double
  | 2 => .float
  | 3 => .int
  | 4 => .boolean
  | _ => .int
theorem nmX8 : ∀ a, a < 6 → ∀ b, b < 6 → a ≠ b → (TX8 a).2.1 ≠ (TX8 b).2.1 := by decide +kernel
theorem tyX8_ok : ∀ k, k < 6 → parseFieldDescriptor (TX8 k).2.2.1 = some (tyX8 k) := by decide +kernel
abbrev cX8_init : ByteArray := prog_11_method_1_code
def yX8_init : MethodName := ⟨RX8, "<init>", "()V"⟩
abbrev cX8_left : ByteArray := prog_11_method_2_code
def yX8_left : MethodName := ⟨RX8, "left", "()D"⟩
def RX9 : String := "TailorBenchModel$Lay"
def TX9 : u_T := fun k => match k with
  | 0 => ("TailorBenchModel$Lay", "is", "Z", false)
  | 1 => ("TailorBenchModel$Lay", "pieces", "I", false)
  | _ => ("TailorBenchModel$Lay", "told", "[D", true)
def tyX9 : Nat → FieldType := fun k => match k with
  | 0 => .boolean
  | 1 => .int
  | _ => .array .double
theorem nmX9 : ∀ a, a < 3 → ∀ b, b < 3 → a ≠ b → (TX9 a).2.1 ≠ (TX9 b).2.1 := by decide +kernel
theorem tyX9_ok : ∀ k, k < 3 → parseFieldDescriptor (TX9 k).2.2.1 = some (tyX9 k) := by decide +kernel
abbrev cX9_init : ByteArray := prog_12_method_1_code
def yX9_init : MethodName := ⟨RX9, "<init>", "()V"⟩
def RX10 : String := "TailorBenchModel$Order"
def TX10 : u_T := fun k => match k with
  | 0 => ("TailorBenchModel$Order", "person", "I", false)
  | 1 => ("TailorBenchModel$Order", "style", "I", false)
  | 2 => ("TailorBenchModel$Order", "due", "I", false)
  | 3 => ("TailorBenchModel$Order", "state", "I", false)
  | 4 => ("TailorBenchModel$Order", "cloth", "I", false)
  | 5 => ("TailorBenchModel$Order", "fitted", "I", false)
  | 6 => ("TailorBenchModel$Order", "hand", "I", false)
  | 7 => ("TailorBenchModel$Order", "ready", "D", false)
  | 8 => ("TailorBenchModel$Order", "needs", "D", false)
  | _ => ("TailorBenchModel$Order", "bodies", "[D", false)
def tyX10 : Nat → FieldType := fun k => match k with
  | 0 => .int
  | 1 => .int
  | 2 => .int
  | 3 => .int
  | 4 => .int
  | 5 => .int
  | 6 => .int
  | 7 => .double
  | 8 => .double
  | _ => .array .double
theorem nmX10 : ∀ a, a < 10 → ∀ b, b < 10 → a ≠ b → (TX10 a).2.1 ≠ (TX10 b).2.1 := by decide +kernel
theorem tyX10_ok : ∀ k, k < 10 → parseFieldDescriptor (TX10 k).2.2.1 = some (tyX10 k) := by decide +kernel
abbrev cX10_init : ByteArray := prog_13_method_1_code
def yX10_init : MethodName := ⟨RX10, "<init>", "()V"⟩
def RX11 : String := "TailorBenchModel"
def TX11 : u_T := fun k => match k with
  | 0 => ("TailorBenchModel", "thrown", "I", false)
  | 1 => ("TailorBenchModel", "cloths", "Ljava/util/ArrayList;", true)
  | 2 => ("TailorBenchModel", "people", "Ljava/util/ArrayList;", true)
  | 3 => ("TailorBenchModel", "styles", "Ljava/util/ArrayList;", true)
  | 4 => ("TailorBenchModel", "orders", "Ljava/util/ArrayList;", true)
  | 5 => ("TailorBenchModel", "free", "[D", true)
  | 6 => ("TailorBenchModel", "pace", "[F", true)
  | 7 => ("TailorBenchModel", "hands", "I", false)
  | 8 => ("TailorBenchModel", "clock", "D", false)
  | 9 => ("TailorBenchModel", "isShut", "Z", false)
  | 10 => ("TailorBenchModel", "purse", "I", false)
  | 11 => ("TailorBenchModel", "refused", "I", false)
  | _ => ("TailorBenchModel", "sum", "J", false)
def tyX11 : Nat → FieldType := fun k => match k with
  | 0 => .int
  | 1 => .object "java/util/ArrayList"
  | 2 => .object "java/util/ArrayList"
  | 3 => .object "java/util/ArrayList"
  | 4 => .object "java/util/ArrayList"
  | 5 => .array .double
  | 6 => .array .float
  | 7 => .int
  | 8 => .double
  | 9 => .boolean
  | 10 => .int
  | 11 => .int
  | _ => .long
theorem nmX11 : ∀ a, a < 13 → ∀ b, b < 13 → a ≠ b → (TX11 a).2.1 ≠ (TX11 b).2.1 := by decide +kernel
theorem tyX11_ok : ∀ k, k < 13 → parseFieldDescriptor (TX11 k).2.2.1 = some (tyX11 k) := by decide +kernel
abbrev cX11_init : ByteArray := prog_10_method_1_code
def yX11_init : MethodName := ⟨RX11, "<init>", "()V"⟩
abbrev cX11_thrown : ByteArray := prog_10_method_2_code
def yX11_thrown : MethodName := ⟨RX11, "thrown", "()I"⟩
abbrev cX11_refuse : ByteArray := prog_10_method_3_code
def yX11_refuse : MethodName := ⟨RX11, "refuse", "(I)I"⟩
abbrev cX11_is : ByteArray := prog_10_method_4_code
def yX11_is : MethodName := ⟨RX11, "is", "(III)Z"⟩
abbrev cX11_go : ByteArray := prog_10_method_5_code
def yX11_go : MethodName := ⟨RX11, "go", "(D)V"⟩
abbrev cX11_cloth : ByteArray := prog_10_method_6_code
def yX11_cloth : MethodName := ⟨RX11, "cloth", "(IIIIZI)I"⟩
abbrev cX11_isCloth : ByteArray := prog_10_method_7_code
def yX11_isCloth : MethodName := ⟨RX11, "isCloth", "(I)Z"⟩
abbrev cX11_wash : ByteArray := prog_10_method_8_code
def yX11_wash : MethodName := ⟨RX11, "wash", "(I)D"⟩
abbrev cX11_person : ByteArray := prog_10_method_9_code
def yX11_person : MethodName := ⟨RX11, "person", "(IIII)I"⟩
abbrev cX11_isPerson : ByteArray := prog_10_method_10_code
def yX11_isPerson : MethodName := ⟨RX11, "isPerson", "(I)Z"⟩
abbrev cX11_measure : ByteArray := prog_10_method_11_code
def yX11_measure : MethodName := ⟨RX11, "measure", "(III)I"⟩
abbrev cX11_style : ByteArray := prog_10_method_12_code
def yX11_style : MethodName := ⟨RX11, "style", "()I"⟩
abbrev cX11_isStyle : ByteArray := prog_10_method_13_code
def yX11_isStyle : MethodName := ⟨RX11, "isStyle", "(I)Z"⟩
abbrev cX11_isPart : ByteArray := prog_10_method_14_code
def yX11_isPart : MethodName := ⟨RX11, "isPart", "(I)Z"⟩
abbrev cX11_piece : ByteArray := prog_10_method_15_code
def yX11_piece : MethodName := ⟨RX11, "piece", "(IIIII)I"⟩
abbrev cX11_hand : ByteArray := prog_10_method_16_code
def yX11_hand : MethodName := ⟨RX11, "hand", "(I)I"⟩
abbrev cX11_part : ByteArray := prog_10_method_17_code
def yX11_part : MethodName := ⟨RX11, "part", "(II)D"⟩
abbrev cX11_body : ByteArray := prog_10_method_18_code
def yX11_body : MethodName := ⟨RX11, "body", "(I[I)D"⟩
abbrev cX11_body_ : ByteArray := prog_10_method_19_code
def yX11_body_ : MethodName := ⟨RX11, "body", "(LTailorBenchModel$Order;I)D"⟩
abbrev cX11_pieces : ByteArray := prog_10_method_20_code
def yX11_pieces : MethodName := ⟨RX11, "pieces", "(LTailorBenchModel$Order;)I"⟩
abbrev cX11_lay : ByteArray := prog_10_method_21_code
def yX11_lay : MethodName := ⟨RX11, "lay", "(IILTailorBenchModel$Cloth;)LTailorBenchModel$Lay;"⟩
abbrev cX11_place : ByteArray := prog_10_method_22_code
def yX11_place : MethodName := ⟨RX11, "place", "(LTailorBenchModel$Lay;[D[DLTailorBenchModel$Cloth;)V"⟩
abbrev cX11_first : ByteArray := prog_10_method_23_code
def yX11_first : MethodName := ⟨RX11, "first", "([D[DIDD)I"⟩
abbrev cX11_order : ByteArray := prog_10_method_24_code
def yX11_order : MethodName := ⟨RX11, "order", "(III)I"⟩
abbrev cX11_isOrder : ByteArray := prog_10_method_25_code
def yX11_isOrder : MethodName := ⟨RX11, "isOrder", "(I)Z"⟩
abbrev cX11_isIn : ByteArray := prog_10_method_26_code
def yX11_isIn : MethodName := ⟨RX11, "isIn", "(II)Z"⟩
abbrev cX11_keep : ByteArray := prog_10_method_27_code
def yX11_keep : MethodName := ⟨RX11, "keep", "(IID)V"⟩
abbrev cX11_cut : ByteArray := prog_10_method_28_code
def yX11_cut : MethodName := ⟨RX11, "cut", "(III)D"⟩
abbrev cX11_readyBy : ByteArray := prog_10_method_29_code
def yX11_readyBy : MethodName := ⟨RX11, "readyBy", "(II)D"⟩
abbrev cX11_isHand : ByteArray := prog_10_method_30_code
def yX11_isHand : MethodName := ⟨RX11, "isHand", "(I)Z"⟩
abbrev cX11_sew : ByteArray := prog_10_method_31_code
def yX11_sew : MethodName := ⟨RX11, "sew", "(II)D"⟩
abbrev cX11_tightNow : ByteArray := prog_10_method_32_code
def yX11_tightNow : MethodName := ⟨RX11, "tightNow", "(IZ)D"⟩
abbrev cX11_fit : ByteArray := prog_10_method_33_code
def yX11_fit : MethodName := ⟨RX11, "fit", "(I)I"⟩
abbrev cX11_give : ByteArray := prog_10_method_34_code
def yX11_give : MethodName := ⟨RX11, "give", "(I)I"⟩
abbrev cX11_pass : ByteArray := prog_10_method_35_code
def yX11_pass : MethodName := ⟨RX11, "pass", "(I)D"⟩
abbrev cX11_shut : ByteArray := prog_10_method_36_code
def yX11_shut : MethodName := ⟨RX11, "shut", "(Z)Z"⟩
abbrev cX11_bell : ByteArray := prog_10_method_37_code
def yX11_bell : MethodName := ⟨RX11, "bell", "()I"⟩
abbrev cX11_ofClothNow : ByteArray := prog_10_method_38_code
def yX11_ofClothNow : MethodName := ⟨RX11, "ofClothNow", "(LTailorBenchModel$Cloth;I)D"⟩
abbrev cX11_ofCloth : ByteArray := prog_10_method_39_code
def yX11_ofCloth : MethodName := ⟨RX11, "ofCloth", "(II)D"⟩
abbrev cX11_size : ByteArray := prog_10_method_40_code
def yX11_size : MethodName := ⟨RX11, "size", "(IIIZ)D"⟩
abbrev cX11_ofOrderNow : ByteArray := prog_10_method_41_code
def yX11_ofOrderNow : MethodName := ⟨RX11, "ofOrderNow", "(LTailorBenchModel$Order;I)I"⟩
abbrev cX11_ofOrder : ByteArray := prog_10_method_42_code
def yX11_ofOrder : MethodName := ⟨RX11, "ofOrder", "(II)I"⟩
abbrev cX11_tight : ByteArray := prog_10_method_43_code
def yX11_tight : MethodName := ⟨RX11, "tight", "(IZ)D"⟩
abbrev cX11_ready : ByteArray := prog_10_method_44_code
def yX11_ready : MethodName := ⟨RX11, "ready", "(I)D"⟩
abbrev cX11_free : ByteArray := prog_10_method_45_code
def yX11_free : MethodName := ⟨RX11, "free", "(I)D"⟩
abbrev cX11_clock : ByteArray := prog_10_method_46_code
def yX11_clock : MethodName := ⟨RX11, "clock", "()D"⟩
abbrev cX11_manyNow : ByteArray := prog_10_method_47_code
def yX11_manyNow : MethodName := ⟨RX11, "manyNow", "(I)I"⟩
abbrev cX11_many : ByteArray := prog_10_method_48_code
def yX11_many : MethodName := ⟨RX11, "many", "(I)I"⟩
abbrev cX11_layNow : ByteArray := prog_10_method_49_code
def yX11_layNow : MethodName := ⟨RX11, "layNow", "(IILTailorBenchModel$Cloth;I)D"⟩
abbrev cX11_lay_ : ByteArray := prog_10_method_50_code
def yX11_lay_ : MethodName := ⟨RX11, "lay", "(IIII)D"⟩
abbrev cX11_bestNow : ByteArray := prog_10_method_51_code
def yX11_bestNow : MethodName := ⟨RX11, "bestNow", "(I)I"⟩
abbrev cX11_best : ByteArray := prog_10_method_52_code
def yX11_best : MethodName := ⟨RX11, "best", "(I)I"⟩
abbrev cX11_mate : ByteArray := prog_10_method_53_code
def yX11_mate : MethodName := ⟨RX11, "mate", "(II)I"⟩
abbrev cX11_soonestNow : ByteArray := prog_10_method_54_code
def yX11_soonestNow : MethodName := ⟨RX11, "soonestNow", "(I)I"⟩
abbrev cX11_soonest : ByteArray := prog_10_method_55_code
def yX11_soonest : MethodName := ⟨RX11, "soonest", "(I)I"⟩
abbrev cX11_add : ByteArray := prog_10_method_56_code
def yX11_add : MethodName := ⟨RX11, "add", "(J)V"⟩
abbrev cX11_addPoint : ByteArray := prog_10_method_57_code
def yX11_addPoint : MethodName := ⟨RX11, "addPoint", "(D)V"⟩
abbrev cX11_digest : ByteArray := prog_10_method_58_code
def yX11_digest : MethodName := ⟨RX11, "digest", "()J"⟩
def RJx145de : String := "java/io/Serializable"
def TJx145de : u_T := fun k => match k with
  | _ => ("", "", "", false)
def tyJx145de : Nat → FieldType := fun k => match k with
  | _ => .int
theorem nmJx145de : ∀ a, a < 0 → ∀ b, b < 0 → a ≠ b → (TJx145de a).2.1 ≠ (TJx145de b).2.1 := by decide +kernel
theorem tyJx145de_ok : ∀ k, k < 0 → parseFieldDescriptor (TJx145de k).2.2.1 = some (tyJx145de k) := by decide +kernel
def RJx8e188 : String := "java/lang/Cloneable"
def TJx8e188 : u_T := fun k => match k with
  | _ => ("", "", "", false)
def tyJx8e188 : Nat → FieldType := fun k => match k with
  | _ => .int
theorem nmJx8e188 : ∀ a, a < 0 → ∀ b, b < 0 → a ≠ b → (TJx8e188 a).2.1 ≠ (TJx8e188 b).2.1 := by decide +kernel
theorem tyJx8e188_ok : ∀ k, k < 0 → parseFieldDescriptor (TJx8e188 k).2.2.1 = some (tyJx8e188 k) := by decide +kernel
def RJxb160c : String := "java/lang/Comparable"
def TJxb160c : u_T := fun k => match k with
  | _ => ("", "", "", false)
def tyJxb160c : Nat → FieldType := fun k => match k with
  | _ => .int
theorem nmJxb160c : ∀ a, a < 0 → ∀ b, b < 0 → a ≠ b → (TJxb160c a).2.1 ≠ (TJxb160c b).2.1 := by decide +kernel
theorem tyJxb160c_ok : ∀ k, k < 0 → parseFieldDescriptor (TJxb160c k).2.2.1 = some (tyJxb160c k) := by decide +kernel
def RJxe99ae : String := "java/lang/Double"
def TJxe99ae : u_T := fun k => match k with
  | _ => ("", "", "", false)
def tyJxe99ae : Nat → FieldType := fun k => match k with
  | _ => .int
theorem nmJxe99ae : ∀ a, a < 0 → ∀ b, b < 0 → a ≠ b → (TJxe99ae a).2.1 ≠ (TJxe99ae b).2.1 := by decide +kernel
theorem tyJxe99ae_ok : ∀ k, k < 0 → parseFieldDescriptor (TJxe99ae k).2.2.1 = some (tyJxe99ae k) := by decide +kernel
def RJxab1ab : String := "java/lang/Iterable"
def TJxab1ab : u_T := fun k => match k with
  | _ => ("", "", "", false)
def tyJxab1ab : Nat → FieldType := fun k => match k with
  | _ => .int
theorem nmJxab1ab : ∀ a, a < 0 → ∀ b, b < 0 → a ≠ b → (TJxab1ab a).2.1 ≠ (TJxab1ab b).2.1 := by decide +kernel
theorem tyJxab1ab_ok : ∀ k, k < 0 → parseFieldDescriptor (TJxab1ab k).2.2.1 = some (tyJxab1ab k) := by decide +kernel
def RJ9 : String := "java/lang/Math"
def TJ9 : u_T := fun k => match k with
  | _ => ("", "", "", false)
def tyJ9 : Nat → FieldType := fun k => match k with
  | _ => .int
theorem nmJ9 : ∀ a, a < 0 → ∀ b, b < 0 → a ≠ b → (TJ9 a).2.1 ≠ (TJ9 b).2.1 := by decide +kernel
theorem tyJ9_ok : ∀ k, k < 0 → parseFieldDescriptor (TJ9 k).2.2.1 = some (tyJ9 k) := by decide +kernel
abbrev cJ9_ceil_294c1 : ByteArray := prog_23_method_16_code
def yJ9_ceil_294c1 : MethodName := ⟨RJ9, "ceil", "(D)D"⟩
abbrev cJ9_max_7cf53 : ByteArray := prog_23_method_65_code
def yJ9_max_7cf53 : MethodName := ⟨RJ9, "max", "(II)I"⟩
abbrev cJ9_max_eb370 : ByteArray := prog_23_method_68_code
def yJ9_max_eb370 : MethodName := ⟨RJ9, "max", "(DD)D"⟩
abbrev cJ9_min_7cf53 : ByteArray := prog_23_method_69_code
def yJ9_min_7cf53 : MethodName := ⟨RJ9, "min", "(II)I"⟩
abbrev cJ9_min_eb370 : ByteArray := prog_23_method_72_code
def yJ9_min_eb370 : MethodName := ⟨RJ9, "min", "(DD)D"⟩
abbrev cJ9_getExponent_b4643 : ByteArray := prog_23_method_92_code
def yJ9_getExponent_b4643 : MethodName := ⟨RJ9, "getExponent", "(D)I"⟩
def RJxd2413 : String := "java/lang/Number"
def TJxd2413 : u_T := fun k => match k with
  | _ => ("", "", "", false)
def tyJxd2413 : Nat → FieldType := fun k => match k with
  | _ => .int
theorem nmJxd2413 : ∀ a, a < 0 → ∀ b, b < 0 → a ≠ b → (TJxd2413 a).2.1 ≠ (TJxd2413 b).2.1 := by decide +kernel
theorem tyJxd2413_ok : ∀ k, k < 0 → parseFieldDescriptor (TJxd2413 k).2.2.1 = some (tyJxd2413 k) := by decide +kernel
def RJxfc994 : String := "java/lang/StrictMath"
def TJxfc994 : u_T := fun k => match k with
  | _ => ("", "", "", false)
def tyJxfc994 : Nat → FieldType := fun k => match k with
  | _ => .int
theorem nmJxfc994 : ∀ a, a < 0 → ∀ b, b < 0 → a ≠ b → (TJxfc994 a).2.1 ≠ (TJxfc994 b).2.1 := by decide +kernel
theorem tyJxfc994_ok : ∀ k, k < 0 → parseFieldDescriptor (TJxfc994 k).2.2.1 = some (tyJxfc994 k) := by decide +kernel
abbrev cJxfc994_ceil_294c1 : ByteArray := prog_26_method_16_code
def yJxfc994_ceil_294c1 : MethodName := ⟨RJxfc994, "ceil", "(D)D"⟩
abbrev cJxfc994_floorOrCeil_f4a47 : ByteArray := prog_26_method_18_code
def yJxfc994_floorOrCeil_f4a47 : MethodName := ⟨RJxfc994, "floorOrCeil", "(DDDD)D"⟩
def RJ0 : String := "java/lang/String"
def TJ0 : u_T := fun k => match k with
  | _ => ("", "", "", false)
def tyJ0 : Nat → FieldType := fun k => match k with
  | _ => .int
theorem nmJ0 : ∀ a, a < 0 → ∀ b, b < 0 → a ≠ b → (TJ0 a).2.1 ≠ (TJ0 b).2.1 := by decide +kernel
theorem tyJ0_ok : ∀ k, k < 0 → parseFieldDescriptor (TJ0 k).2.2.1 = some (tyJ0 k) := by decide +kernel
def RJ10 : String := "java/lang/System"
def TJ10 : u_T := fun k => match k with
  | _ => ("", "", "", false)
def tyJ10 : Nat → FieldType := fun k => match k with
  | _ => .int
theorem nmJ10 : ∀ a, a < 0 → ∀ b, b < 0 → a ≠ b → (TJ10 a).2.1 ≠ (TJ10 b).2.1 := by decide +kernel
theorem tyJ10_ok : ∀ k, k < 0 → parseFieldDescriptor (TJ10 k).2.2.1 = some (tyJ10 k) := by decide +kernel
def RJxfd54e : String := "java/lang/constant/Constable"
def TJxfd54e : u_T := fun k => match k with
  | _ => ("", "", "", false)
def tyJxfd54e : Nat → FieldType := fun k => match k with
  | _ => .int
theorem nmJxfd54e : ∀ a, a < 0 → ∀ b, b < 0 → a ≠ b → (TJxfd54e a).2.1 ≠ (TJxfd54e b).2.1 := by decide +kernel
theorem tyJxfd54e_ok : ∀ k, k < 0 → parseFieldDescriptor (TJxfd54e k).2.2.1 = some (tyJxfd54e k) := by decide +kernel
def RJx3cf43 : String := "java/lang/constant/ConstantDesc"
def TJx3cf43 : u_T := fun k => match k with
  | _ => ("", "", "", false)
def tyJx3cf43 : Nat → FieldType := fun k => match k with
  | _ => .int
theorem nmJx3cf43 : ∀ a, a < 0 → ∀ b, b < 0 → a ≠ b → (TJx3cf43 a).2.1 ≠ (TJx3cf43 b).2.1 := by decide +kernel
theorem tyJx3cf43_ok : ∀ k, k < 0 → parseFieldDescriptor (TJx3cf43 k).2.2.1 = some (tyJx3cf43 k) := by decide +kernel
def RJxa1e45 : String := "java/util/AbstractCollection"
def TJxa1e45 : u_T := fun k => match k with
  | _ => ("", "", "", false)
def tyJxa1e45 : Nat → FieldType := fun k => match k with
  | _ => .int
theorem nmJxa1e45 : ∀ a, a < 0 → ∀ b, b < 0 → a ≠ b → (TJxa1e45 a).2.1 ≠ (TJxa1e45 b).2.1 := by decide +kernel
theorem tyJxa1e45_ok : ∀ k, k < 0 → parseFieldDescriptor (TJxa1e45 k).2.2.1 = some (tyJxa1e45 k) := by decide +kernel
abbrev cJxa1e45_init_da8c8 : ByteArray := prog_32_method_1_code
def yJxa1e45_init_da8c8 : MethodName := ⟨RJxa1e45, "<init>", "()V"⟩
def RJxc12de : String := "java/util/AbstractList"
def TJxc12de : u_T := fun k => match k with
  | _ => ("", "", "", false)
def tyJxc12de : Nat → FieldType := fun k => match k with
  | _ => .int
theorem nmJxc12de : ∀ a, a < 0 → ∀ b, b < 0 → a ≠ b → (TJxc12de a).2.1 ≠ (TJxc12de b).2.1 := by decide +kernel
theorem tyJxc12de_ok : ∀ k, k < 0 → parseFieldDescriptor (TJxc12de k).2.2.1 = some (tyJxc12de k) := by decide +kernel
abbrev cJxc12de_init_da8c8 : ByteArray := prog_33_method_1_code
def yJxc12de_init_da8c8 : MethodName := ⟨RJxc12de, "<init>", "()V"⟩
def RJx35411 : String := "java/util/ArrayList$Itr"
def TJx35411 : u_T := fun k => match k with
  | 0 => ("java/util/ArrayList$Itr", "cursor", "I", false)
  | 1 => ("java/util/ArrayList$Itr", "lastRet", "I", false)
  | 2 => ("java/util/ArrayList$Itr", "expectedModCount", "I", false)
  | _ => ("java/util/ArrayList$Itr", "this$0", "Ljava/util/ArrayList;", true)
def tyJx35411 : Nat → FieldType := fun k => match k with
  | 0 => .int
  | 1 => .int
  | 2 => .int
  | _ => .object "java/util/ArrayList"
theorem nmJx35411 : ∀ a, a < 4 → ∀ b, b < 4 → a ≠ b → (TJx35411 a).2.1 ≠ (TJx35411 b).2.1 := by decide +kernel
theorem tyJx35411_ok : ∀ k, k < 4 → parseFieldDescriptor (TJx35411 k).2.2.1 = some (tyJx35411 k) := by decide +kernel
abbrev cJx35411_init_45d68 : ByteArray := prog_35_method_1_code
def yJx35411_init_45d68 : MethodName := ⟨RJx35411, "<init>", "(Ljava/util/ArrayList;)V"⟩
abbrev cJx35411_hasNext_aae02 : ByteArray := prog_35_method_2_code
def yJx35411_hasNext_aae02 : MethodName := ⟨RJx35411, "hasNext", "()Z"⟩
abbrev cJx35411_next_0502b : ByteArray := prog_35_method_3_code
def yJx35411_next_0502b : MethodName := ⟨RJx35411, "next", "()Ljava/lang/Object;"⟩
abbrev cJx35411_checkForComodification_da8c8 : ByteArray := prog_35_method_6_code
def yJx35411_checkForComodification_da8c8 : MethodName := ⟨RJx35411, "checkForComodification", "()V"⟩
def RJx4a65c : String := "java/util/ArrayList"
def TJx4a65c : u_T := fun k => match k with
  | 0 => ("java/util/AbstractList", "modCount", "I", false)
  | 1 => ("java/util/ArrayList", "elementData", "[Ljava/lang/Object;", false)
  | _ => ("java/util/ArrayList", "size", "I", false)
def tyJx4a65c : Nat → FieldType := fun k => match k with
  | 0 => .int
  | 1 => .array (.object "java/lang/Object")
  | _ => .int
theorem nmJx4a65c : ∀ a, a < 3 → ∀ b, b < 3 → a ≠ b → (TJx4a65c a).2.1 ≠ (TJx4a65c b).2.1 := by decide +kernel
theorem tyJx4a65c_ok : ∀ k, k < 3 → parseFieldDescriptor (TJx4a65c k).2.2.1 = some (tyJx4a65c k) := by decide +kernel
abbrev cJx4a65c_init_da8c8 : ByteArray := prog_34_method_2_code
def yJx4a65c_init_da8c8 : MethodName := ⟨RJx4a65c, "<init>", "()V"⟩
abbrev cJx4a65c_grow_92f84 : ByteArray := prog_34_method_6_code
def yJx4a65c_grow_92f84 : MethodName := ⟨RJx4a65c, "grow", "(I)[Ljava/lang/Object;"⟩
abbrev cJx4a65c_grow_d5877 : ByteArray := prog_34_method_7_code
def yJx4a65c_grow_d5877 : MethodName := ⟨RJx4a65c, "grow", "()[Ljava/lang/Object;"⟩
abbrev cJx4a65c_size_8abf5 : ByteArray := prog_34_method_8_code
def yJx4a65c_size_8abf5 : MethodName := ⟨RJx4a65c, "size", "()I"⟩
abbrev cJx4a65c_isEmpty_aae02 : ByteArray := prog_34_method_9_code
def yJx4a65c_isEmpty_aae02 : MethodName := ⟨RJx4a65c, "isEmpty", "()Z"⟩
abbrev cJx4a65c_elementData_915e3 : ByteArray := prog_34_method_18_code
def yJx4a65c_elementData_915e3 : MethodName := ⟨RJx4a65c, "elementData", "(I)Ljava/lang/Object;"⟩
abbrev cJx4a65c_get_915e3 : ByteArray := prog_34_method_20_code
def yJx4a65c_get_915e3 : MethodName := ⟨RJx4a65c, "get", "(I)Ljava/lang/Object;"⟩
abbrev cJx4a65c_add_72be8 : ByteArray := prog_34_method_24_code
def yJx4a65c_add_72be8 : MethodName := ⟨RJx4a65c, "add", "(Ljava/lang/Object;[Ljava/lang/Object;I)V"⟩
abbrev cJx4a65c_add_9ea2d : ByteArray := prog_34_method_25_code
def yJx4a65c_add_9ea2d : MethodName := ⟨RJx4a65c, "add", "(Ljava/lang/Object;)Z"⟩
abbrev cJx4a65c_iterator_32c93 : ByteArray := prog_34_method_55_code
def yJx4a65c_iterator_32c93 : MethodName := ⟨RJx4a65c, "iterator", "()Ljava/util/Iterator;"⟩
def RJ7 : String := "java/util/Arrays"
def TJ7 : u_T := fun k => match k with
  | _ => ("", "", "", false)
def tyJ7 : Nat → FieldType := fun k => match k with
  | _ => .int
theorem nmJ7 : ∀ a, a < 0 → ∀ b, b < 0 → a ≠ b → (TJ7 a).2.1 ≠ (TJ7 b).2.1 := by decide +kernel
theorem tyJ7_ok : ∀ k, k < 0 → parseFieldDescriptor (TJ7 k).2.2.1 = some (tyJ7 k) := by decide +kernel
abbrev cJ7_copyOf_1904c : ByteArray := prog_36_method_119_code
def yJ7_copyOf_1904c : MethodName := ⟨RJ7, "copyOf", "([Ljava/lang/Object;I)[Ljava/lang/Object;"⟩
abbrev cJ7_copyOf_6403c : ByteArray := prog_36_method_120_code
def yJ7_copyOf_6403c : MethodName := ⟨RJ7, "copyOf", "([Ljava/lang/Object;ILjava/lang/Class;)[Ljava/lang/Object;"⟩
def RJx5ef63 : String := "java/util/Collection"
def TJx5ef63 : u_T := fun k => match k with
  | _ => ("", "", "", false)
def tyJx5ef63 : Nat → FieldType := fun k => match k with
  | _ => .int
theorem nmJx5ef63 : ∀ a, a < 0 → ∀ b, b < 0 → a ≠ b → (TJx5ef63 a).2.1 ≠ (TJx5ef63 b).2.1 := by decide +kernel
theorem tyJx5ef63_ok : ∀ k, k < 0 → parseFieldDescriptor (TJx5ef63 k).2.2.1 = some (tyJx5ef63 k) := by decide +kernel
def RJx4d0d8 : String := "java/util/Iterator"
def TJx4d0d8 : u_T := fun k => match k with
  | _ => ("", "", "", false)
def tyJx4d0d8 : Nat → FieldType := fun k => match k with
  | _ => .int
theorem nmJx4d0d8 : ∀ a, a < 0 → ∀ b, b < 0 → a ≠ b → (TJx4d0d8 a).2.1 ≠ (TJx4d0d8 b).2.1 := by decide +kernel
theorem tyJx4d0d8_ok : ∀ k, k < 0 → parseFieldDescriptor (TJx4d0d8 k).2.2.1 = some (tyJx4d0d8 k) := by decide +kernel
def RJxbd725 : String := "java/util/List"
def TJxbd725 : u_T := fun k => match k with
  | _ => ("", "", "", false)
def tyJxbd725 : Nat → FieldType := fun k => match k with
  | _ => .int
theorem nmJxbd725 : ∀ a, a < 0 → ∀ b, b < 0 → a ≠ b → (TJxbd725 a).2.1 ≠ (TJxbd725 b).2.1 := by decide +kernel
theorem tyJxbd725_ok : ∀ k, k < 0 → parseFieldDescriptor (TJxbd725 k).2.2.1 = some (tyJxbd725 k) := by decide +kernel
def RJ15 : String := "java/util/Objects"
def TJ15 : u_T := fun k => match k with
  | _ => ("", "", "", false)
def tyJ15 : Nat → FieldType := fun k => match k with
  | _ => .int
theorem nmJ15 : ∀ a, a < 0 → ∀ b, b < 0 → a ≠ b → (TJ15 a).2.1 ≠ (TJ15 b).2.1 := by decide +kernel
theorem tyJ15_ok : ∀ k, k < 0 → parseFieldDescriptor (TJ15 k).2.2.1 = some (tyJ15 k) := by decide +kernel
abbrev cJ15_checkIndex_7cf53 : ByteArray := prog_40_method_17_code
def yJ15_checkIndex_7cf53 : MethodName := ⟨RJ15, "checkIndex", "(II)I"⟩
def RJxf0a74 : String := "java/util/RandomAccess"
def TJxf0a74 : u_T := fun k => match k with
  | _ => ("", "", "", false)
def tyJxf0a74 : Nat → FieldType := fun k => match k with
  | _ => .int
theorem nmJxf0a74 : ∀ a, a < 0 → ∀ b, b < 0 → a ≠ b → (TJxf0a74 a).2.1 ≠ (TJxf0a74 b).2.1 := by decide +kernel
theorem tyJxf0a74_ok : ∀ k, k < 0 → parseFieldDescriptor (TJxf0a74 k).2.2.1 = some (tyJxf0a74 k) := by decide +kernel
def RJxa66e6 : String := "java/util/SequencedCollection"
def TJxa66e6 : u_T := fun k => match k with
  | _ => ("", "", "", false)
def tyJxa66e6 : Nat → FieldType := fun k => match k with
  | _ => .int
theorem nmJxa66e6 : ∀ a, a < 0 → ∀ b, b < 0 → a ≠ b → (TJxa66e6 a).2.1 ≠ (TJxa66e6 b).2.1 := by decide +kernel
theorem tyJxa66e6_ok : ∀ k, k < 0 → parseFieldDescriptor (TJxa66e6 k).2.2.1 = some (tyJxa66e6 k) := by decide +kernel
def RJ8 : String := "jdk/internal/util/ArraysSupport"
def TJ8 : u_T := fun k => match k with
  | _ => ("", "", "", false)
def tyJ8 : Nat → FieldType := fun k => match k with
  | _ => .int
theorem nmJ8 : ∀ a, a < 0 → ∀ b, b < 0 → a ≠ b → (TJ8 a).2.1 ≠ (TJ8 b).2.1 := by decide +kernel
theorem tyJ8_ok : ∀ k, k < 0 → parseFieldDescriptor (TJ8 k).2.2.1 = some (tyJ8 k) := by decide +kernel
abbrev cJ8_newLength_cabcc : ByteArray := prog_43_method_27_code
def yJ8_newLength_cabcc : MethodName := ⟨RJ8, "newLength", "(III)I"⟩
abbrev cJ8_hugeLength_7cf53 : ByteArray := prog_43_method_28_code
def yJ8_hugeLength_7cf53 : MethodName := ⟨RJ8, "hugeLength", "(II)I"⟩
def RJ3 : String := "jdk/internal/util/Preconditions"
def TJ3 : u_T := fun k => match k with
  | _ => ("", "", "", false)
def tyJ3 : Nat → FieldType := fun k => match k with
  | _ => .int
theorem nmJ3 : ∀ a, a < 0 → ∀ b, b < 0 → a ≠ b → (TJ3 a).2.1 ≠ (TJ3 b).2.1 := by decide +kernel
theorem tyJ3_ok : ∀ k, k < 0 → parseFieldDescriptor (TJ3 k).2.2.1 = some (tyJ3 k) := by decide +kernel
abbrev cJ3_checkIndex_8e157 : ByteArray := prog_44_method_11_code
def yJ3_checkIndex_8e157 : MethodName := ⟨RJ3, "checkIndex", "(IILjava/util/function/BiFunction;)I"⟩
def RL : String := "TailorBenchLaw"
abbrev cL_cloth : ByteArray := method_3_code
def yL_cloth : MethodName := ⟨RL, "cloth", "(LTailorBench;IIIIZI[J)I"⟩
abbrev cL_wash : ByteArray := method_4_code
def yL_wash : MethodName := ⟨RL, "wash", "(LTailorBench;I[D)I"⟩
abbrev cL_person : ByteArray := method_5_code
def yL_person : MethodName := ⟨RL, "person", "(LTailorBench;IIII[J)I"⟩
abbrev cL_measure : ByteArray := method_6_code
def yL_measure : MethodName := ⟨RL, "measure", "(LTailorBench;III[J)I"⟩
abbrev cL_style : ByteArray := method_7_code
def yL_style : MethodName := ⟨RL, "style", "(LTailorBench;[J)I"⟩
abbrev cL_piece : ByteArray := method_8_code
def yL_piece : MethodName := ⟨RL, "piece", "(LTailorBench;IIIII[J)I"⟩
abbrev cL_hand : ByteArray := method_9_code
def yL_hand : MethodName := ⟨RL, "hand", "(LTailorBench;I[J)I"⟩
abbrev cL_order : ByteArray := method_10_code
def yL_order : MethodName := ⟨RL, "order", "(LTailorBench;III[J)I"⟩
abbrev cL_cut : ByteArray := method_11_code
def yL_cut : MethodName := ⟨RL, "cut", "(LTailorBench;III[D)I"⟩
abbrev cL_sew : ByteArray := method_12_code
def yL_sew : MethodName := ⟨RL, "sew", "(LTailorBench;II[D)I"⟩
abbrev cL_fit : ByteArray := method_13_code
def yL_fit : MethodName := ⟨RL, "fit", "(LTailorBench;I[J)I"⟩
abbrev cL_give : ByteArray := method_14_code
def yL_give : MethodName := ⟨RL, "give", "(LTailorBench;I[J)I"⟩
abbrev cL_pass : ByteArray := method_15_code
def yL_pass : MethodName := ⟨RL, "pass", "(LTailorBench;I[D)I"⟩
abbrev cL_ofCloth : ByteArray := method_16_code
def yL_ofCloth : MethodName := ⟨RL, "ofCloth", "(LTailorBench;II[D)I"⟩
abbrev cL_size : ByteArray := method_17_code
def yL_size : MethodName := ⟨RL, "size", "(LTailorBench;IIIZ[D)I"⟩
abbrev cL_ofOrder : ByteArray := method_18_code
def yL_ofOrder : MethodName := ⟨RL, "ofOrder", "(LTailorBench;II[J)I"⟩
abbrev cL_tight : ByteArray := method_19_code
def yL_tight : MethodName := ⟨RL, "tight", "(LTailorBench;IZ[D)I"⟩
abbrev cL_ready : ByteArray := method_20_code
def yL_ready : MethodName := ⟨RL, "ready", "(LTailorBench;I[D)I"⟩
abbrev cL_free : ByteArray := method_21_code
def yL_free : MethodName := ⟨RL, "free", "(LTailorBench;I[D)I"⟩
abbrev cL_many : ByteArray := method_22_code
def yL_many : MethodName := ⟨RL, "many", "(LTailorBench;I[J)I"⟩
abbrev cL_lay : ByteArray := method_23_code
def yL_lay : MethodName := ⟨RL, "lay", "(LTailorBench;IIII[D)I"⟩
abbrev cL_best : ByteArray := method_24_code
def yL_best : MethodName := ⟨RL, "best", "(LTailorBench;I[J)I"⟩
abbrev cL_mate : ByteArray := method_25_code
def yL_mate : MethodName := ⟨RL, "mate", "(LTailorBench;II[J)I"⟩
abbrev cL_soonest : ByteArray := method_26_code
def yL_soonest : MethodName := ⟨RL, "soonest", "(LTailorBench;I[J)I"⟩
abbrev cL_law : ByteArray := code
def yL_law : MethodName := ⟨RL, "law", "([I)Z"⟩
abbrev vwCl : List vw_C := [(RJx35411, TJx35411, 4), (RJx4a65c, TJx4a65c, 3), (RX0, TX0, 6), (RX1, TX1, 2), (RX2, TX2, 10), (RX3, TX3, 5), (RX4, TX4, 4), (RX5, TX5, 5), (RX6, TX6, 11), (RX7, TX7, 15), (RX8, TX8, 6), (RX9, TX9, 3), (RX10, TX10, 10), (RX11, TX11, 13)]
