abbrev am_KD : Type := (String × u_T × Nat × (Nat → FieldType)) ⊕ (FieldType × Nat)
def am_T1 : u_T := fun k => match k with
  | 0 => ("LinkStateNet", "routers", "[LLinkStateNet$Router;", true)
  | 1 => ("LinkStateNet", "updates", "[LLinkStateNet$Update;", true)
  | 2 => ("LinkStateNet", "routes", "LLinkStateNet$Routes;", true)
  | 3 => ("LinkStateNet", "counts", "[I", true)
  | _ => ("LinkStateNet", "clock", "I", false)
def am_ty1 : Nat → FieldType := fun k => match k with
  | 0 => .array (.object "LinkStateNet$Router")
  | 1 => .array (.object "LinkStateNet$Update")
  | 2 => .object "LinkStateNet$Routes"
  | 3 => .array .int
  | _ => .int
def am_o1 : String × u_T × Nat × (Nat → FieldType) := ("LinkStateNet", am_T1, 5, am_ty1)
theorem am_o1_ty : ∀ x, x < am_o1.2.2.1 → parseFieldDescriptor (am_o1.2.1 x).2.2.1 = some (am_o1.2.2.2 x) := by decide +kernel
theorem am_o1_nm : ∀ x, x < am_o1.2.2.1 → ∀ y, y < am_o1.2.2.1 → x ≠ y → (am_o1.2.1 x).2.1 ≠ (am_o1.2.1 y).2.1 := by decide +kernel
theorem am_o1_dv : ∀ x, x < 5 → defaultValue (am_o1.2.2.2 x) = if (am_o1.2.2.2 x).isReference = true then .null else .int 0 := by decide +kernel
def am_T3 : u_T := fun k => match k with
  | 0 => ("LinkStateNet$Router", "id", "I", true)
  | 1 => ("LinkStateNet$Router", "on", "Z", false)
  | 2 => ("LinkStateNet$Router", "latestNumber", "I", false)
  | 3 => ("LinkStateNet$Router", "pressed", "Z", false)
  | 4 => ("LinkStateNet$Router", "latest", "LLinkStateNet$Description;", false)
  | 5 => ("LinkStateNet$Router", "stubs", "[LLinkStateNet$Stub;", true)
  | 6 => ("LinkStateNet$Router", "held", "[LLinkStateNet$Description;", true)
  | _ => ("LinkStateNet$Router", "ends", "[LLinkStateNet$LinkEnd;", true)
def am_ty3 : Nat → FieldType := fun k => match k with
  | 0 => .int
  | 1 => .boolean
  | 2 => .int
  | 3 => .boolean
  | 4 => .object "LinkStateNet$Description"
  | 5 => .array (.object "LinkStateNet$Stub")
  | 6 => .array (.object "LinkStateNet$Description")
  | _ => .array (.object "LinkStateNet$LinkEnd")
def am_o3 : String × u_T × Nat × (Nat → FieldType) := ("LinkStateNet$Router", am_T3, 8, am_ty3)
theorem am_o3_ty : ∀ x, x < am_o3.2.2.1 → parseFieldDescriptor (am_o3.2.1 x).2.2.1 = some (am_o3.2.2.2 x) := by decide +kernel
theorem am_o3_nm : ∀ x, x < am_o3.2.2.1 → ∀ y, y < am_o3.2.2.1 → x ≠ y → (am_o3.2.1 x).2.1 ≠ (am_o3.2.1 y).2.1 := by decide +kernel
theorem am_o3_dv : ∀ x, x < 8 → defaultValue (am_o3.2.2.2 x) = if (am_o3.2.2.2 x).isReference = true then .null else .int 0 := by decide +kernel
def am_T7 : u_T := fun k => match k with
  | 0 => ("LinkStateNet$LinkEnd", "cost", "I", false)
  | 1 => ("LinkStateNet$LinkEnd", "losses", "I", false)
  | 2 => ("LinkStateNet$LinkEnd", "heard", "Z", false)
  | 3 => ("LinkStateNet$LinkEnd", "heardBeforeHellos", "Z", false)
  | 4 => ("LinkStateNet$LinkEnd", "heardAt", "I", false)
  | 5 => ("LinkStateNet$LinkEnd", "mutual", "Z", false)
  | 6 => ("LinkStateNet$LinkEnd", "full", "Z", false)
  | 7 => ("LinkStateNet$LinkEnd", "becameFull", "Z", false)
  | _ => ("LinkStateNet$LinkEnd", "sentAt", "[I", true)
def am_ty7 : Nat → FieldType := fun k => match k with
  | 0 => .int
  | 1 => .int
  | 2 => .boolean
  | 3 => .boolean
  | 4 => .int
  | 5 => .boolean
  | 6 => .boolean
  | 7 => .boolean
  | _ => .array .int
def am_o7 : String × u_T × Nat × (Nat → FieldType) := ("LinkStateNet$LinkEnd", am_T7, 9, am_ty7)
theorem am_o7_ty : ∀ x, x < am_o7.2.2.1 → parseFieldDescriptor (am_o7.2.1 x).2.2.1 = some (am_o7.2.2.2 x) := by decide +kernel
theorem am_o7_nm : ∀ x, x < am_o7.2.2.1 → ∀ y, y < am_o7.2.2.1 → x ≠ y → (am_o7.2.1 x).2.1 ≠ (am_o7.2.1 y).2.1 := by decide +kernel
theorem am_o7_dv : ∀ x, x < 9 → defaultValue (am_o7.2.2.2 x) = if (am_o7.2.2.2 x).isReference = true then .null else .int 0 := by decide +kernel
def am_T10 : u_T := fun k => match k with
  | 0 => ("LinkStateNet$Update", "comes", "Z", false)
  | 1 => ("LinkStateNet$Update", "carried", "[LLinkStateNet$Description;", true)
  | _ => ("LinkStateNet$Update", "taken", "[Z", true)
def am_ty10 : Nat → FieldType := fun k => match k with
  | 0 => .boolean
  | 1 => .array (.object "LinkStateNet$Description")
  | _ => .array .boolean
def am_o10 : String × u_T × Nat × (Nat → FieldType) := ("LinkStateNet$Update", am_T10, 3, am_ty10)
theorem am_o10_ty : ∀ x, x < am_o10.2.2.1 → parseFieldDescriptor (am_o10.2.1 x).2.2.1 = some (am_o10.2.2.2 x) := by decide +kernel
theorem am_o10_nm : ∀ x, x < am_o10.2.2.1 → ∀ y, y < am_o10.2.2.1 → x ≠ y → (am_o10.2.1 x).2.1 ≠ (am_o10.2.1 y).2.1 := by decide +kernel
theorem am_o10_dv : ∀ x, x < 3 → defaultValue (am_o10.2.2.2 x) = if (am_o10.2.2.2 x).isReference = true then .null else .int 0 := by decide +kernel
def am_T13 : u_T := fun k => match k with
  | 0 => ("LinkStateNet$Routes", "edges", "[[I", true)
  | _ => ("LinkStateNet$Routes", "distances", "[[I", true)
def am_ty13 : Nat → FieldType := fun k => match k with
  | 0 => .array (.array .int)
  | _ => .array (.array .int)
def am_o13 : String × u_T × Nat × (Nat → FieldType) := ("LinkStateNet$Routes", am_T13, 2, am_ty13)
theorem am_o13_ty : ∀ x, x < am_o13.2.2.1 → parseFieldDescriptor (am_o13.2.1 x).2.2.1 = some (am_o13.2.2.2 x) := by decide +kernel
theorem am_o13_nm : ∀ x, x < am_o13.2.2.1 → ∀ y, y < am_o13.2.2.1 → x ≠ y → (am_o13.2.1 x).2.1 ≠ (am_o13.2.1 y).2.1 := by decide +kernel
theorem am_o13_dv : ∀ x, x < 2 → defaultValue (am_o13.2.2.2 x) = if (am_o13.2.2.2 x).isReference = true then .null else .int 0 := by decide +kernel
def am_T19 : u_T := fun k => match k with
  | 0 => ("LinkStateNet$Description", "origin", "I", true)
  | 1 => ("LinkStateNet$Description", "number", "I", true)
  | 2 => ("LinkStateNet$Description", "birth", "I", true)
  | 3 => ("LinkStateNet$Description", "costs", "[I", true)
  | _ => ("LinkStateNet$Description", "stubs", "[LLinkStateNet$Stub;", true)
def am_ty19 : Nat → FieldType := fun k => match k with
  | 0 => .int
  | 1 => .int
  | 2 => .int
  | 3 => .array .int
  | _ => .array (.object "LinkStateNet$Stub")
def am_o19 : String × u_T × Nat × (Nat → FieldType) := ("LinkStateNet$Description", am_T19, 5, am_ty19)
theorem am_o19_ty : ∀ x, x < am_o19.2.2.1 → parseFieldDescriptor (am_o19.2.1 x).2.2.1 = some (am_o19.2.2.2 x) := by decide +kernel
theorem am_o19_nm : ∀ x, x < am_o19.2.2.1 → ∀ y, y < am_o19.2.2.1 → x ≠ y → (am_o19.2.1 x).2.1 ≠ (am_o19.2.1 y).2.1 := by decide +kernel
theorem am_o19_dv : ∀ x, x < 5 → defaultValue (am_o19.2.2.2 x) = if (am_o19.2.2.2 x).isReference = true then .null else .int 0 := by decide +kernel
def am_T22 : u_T := fun k => match k with
  | 0 => ("LinkStateNet$Stub", "value", "I", true)
  | 1 => ("LinkStateNet$Stub", "length", "I", true)
  | _ => ("LinkStateNet$Stub", "cost", "I", true)
def am_ty22 : Nat → FieldType := fun k => match k with
  | 0 => .int
  | 1 => .int
  | _ => .int
def am_o22 : String × u_T × Nat × (Nat → FieldType) := ("LinkStateNet$Stub", am_T22, 3, am_ty22)
theorem am_o22_ty : ∀ x, x < am_o22.2.2.1 → parseFieldDescriptor (am_o22.2.1 x).2.2.1 = some (am_o22.2.2.2 x) := by decide +kernel
theorem am_o22_nm : ∀ x, x < am_o22.2.2.1 → ∀ y, y < am_o22.2.2.1 → x ≠ y → (am_o22.2.1 x).2.1 ≠ (am_o22.2.1 y).2.1 := by decide +kernel
theorem am_o22_dv : ∀ x, x < 3 → defaultValue (am_o22.2.2.2 x) = if (am_o22.2.2.2 x).isReference = true then .null else .int 0 := by decide +kernel
def am_T50 : u_T := fun k => match k with
  | 0 => ("LinkStateNetModel", "clock", "I", false)
  | 1 => ("LinkStateNetModel", "off", "[Z", false)
  | 2 => ("LinkStateNetModel", "cost", "[I", false)
  | 3 => ("LinkStateNetModel", "losses", "[I", false)
  | 4 => ("LinkStateNetModel", "heard", "[Z", false)
  | 5 => ("LinkStateNetModel", "heardAt", "[I", false)
  | 6 => ("LinkStateNetModel", "mutual", "[Z", false)
  | 7 => ("LinkStateNetModel", "full", "[Z", false)
  | 8 => ("LinkStateNetModel", "fresh", "[Z", false)
  | 9 => ("LinkStateNetModel", "said", "[Z", false)
  | 10 => ("LinkStateNetModel", "counts", "[I", false)
  | 11 => ("LinkStateNetModel", "number", "[I", false)
  | 12 => ("LinkStateNetModel", "birth", "[I", false)
  | 13 => ("LinkStateNetModel", "list", "[I", false)
  | 14 => ("LinkStateNetModel", "value", "[I", false)
  | 15 => ("LinkStateNetModel", "length", "[I", false)
  | 16 => ("LinkStateNetModel", "weight", "[I", false)
  | 17 => ("LinkStateNetModel", "latest", "[I", false)
  | 18 => ("LinkStateNetModel", "pressed", "[Z", false)
  | 19 => ("LinkStateNetModel", "owes", "[Z", false)
  | 20 => ("LinkStateNetModel", "sentAt", "[I", false)
  | 21 => ("LinkStateNetModel", "goes", "[Z", false)
  | 22 => ("LinkStateNetModel", "arrives", "[Z", false)
  | 23 => ("LinkStateNetModel", "toAck", "[Z", false)
  | _ => ("LinkStateNetModel", "far", "[I", false)
def am_ty50 : Nat → FieldType := fun k => match k with
  | 0 => .int
  | 1 => .array .boolean
  | 2 => .array .int
  | 3 => .array .int
  | 4 => .array .boolean
  | 5 => .array .int
  | 6 => .array .boolean
  | 7 => .array .boolean
  | 8 => .array .boolean
  | 9 => .array .boolean
  | 10 => .array .int
  | 11 => .array .int
  | 12 => .array .int
  | 13 => .array .int
  | 14 => .array .int
  | 15 => .array .int
  | 16 => .array .int
  | 17 => .array .int
  | 18 => .array .boolean
  | 19 => .array .boolean
  | 20 => .array .int
  | 21 => .array .boolean
  | 22 => .array .boolean
  | 23 => .array .boolean
  | _ => .array .int
def am_o50 : String × u_T × Nat × (Nat → FieldType) := ("LinkStateNetModel", am_T50, 25, am_ty50)
theorem am_o50_ty : ∀ x, x < am_o50.2.2.1 → parseFieldDescriptor (am_o50.2.1 x).2.2.1 = some (am_o50.2.2.2 x) := by decide +kernel
theorem am_o50_nm : ∀ x, x < am_o50.2.2.1 → ∀ y, y < am_o50.2.2.1 → x ≠ y → (am_o50.2.1 x).2.1 ≠ (am_o50.2.1 y).2.1 := by decide +kernel
theorem am_o50_dv : ∀ x, x < 25 → defaultValue (am_o50.2.2.2 x) = if (am_o50.2.2.2 x).isReference = true then .null else .int 0 := by decide +kernel
def am_kds : List (Nat × am_KD) := [(1, .inl am_o1), (3, .inl am_o3), (7, .inl am_o7), (10, .inl am_o10), (13, .inl am_o13), (19, .inl am_o19), (22, .inl am_o22), (50, .inl am_o50), (2, .inr (.object "LinkStateNet$Router", 5)), (4, .inr (.object "LinkStateNet$Stub", 2)), (5, .inr (.object "LinkStateNet$Description", 5)), (6, .inr (.object "LinkStateNet$LinkEnd", 5)), (8, .inr (.int, 5)), (9, .inr (.object "LinkStateNet$Update", 25)), (11, .inr (.object "LinkStateNet$Description", 5)), (12, .inr (.boolean, 5)), (14, .inr (.array .int, 5)), (15, .inr (.int, 5)), (16, .inr (.array .int, 5)), (17, .inr (.int, 5)), (18, .inr (.int, 7)), (20, .inr (.int, 5)), (21, .inr (.object "LinkStateNet$Stub", 2)), (51, .inr (.boolean, 5)), (52, .inr (.int, 25)), (53, .inr (.int, 25)), (54, .inr (.boolean, 25)), (55, .inr (.int, 25)), (56, .inr (.boolean, 25)), (57, .inr (.boolean, 25)), (58, .inr (.boolean, 25)), (59, .inr (.boolean, 25)), (60, .inr (.int, 7)), (61, .inr (.int, 60)), (62, .inr (.int, 60)), (63, .inr (.int, 300)), (64, .inr (.int, 120)), (65, .inr (.int, 120)), (66, .inr (.int, 120)), (67, .inr (.int, 5)), (68, .inr (.boolean, 5)), (69, .inr (.boolean, 125)), (70, .inr (.int, 125)), (71, .inr (.boolean, 125)), (72, .inr (.boolean, 25)), (73, .inr (.boolean, 5)), (74, .inr (.int, 25))]
def am_kd (k : Nat) : Option am_KD := am_kds.lookup k
def am_aos : List String := ["LinkStateNet$Router", "LinkStateNet$Stub", "LinkStateNet$Description", "LinkStateNet$LinkEnd", "LinkStateNet$Update"]
def am_ms : List (MethodName × ByteArray × Nat × Option FieldType) := [(⟨"java/lang/Math", "max", "(II)I"⟩, prog_10_method_65_code, 2, some .int),
  (⟨"LinkStateNet$Stub", "<init>", "(III)V"⟩, prog_6_method_1_code, 4, none),
  (⟨"LinkStateNet$Stub", "fits", "(I)Z"⟩, prog_6_method_2_code, 3, some .boolean),
  (⟨"LinkStateNet$Stub", "alike", "(LLinkStateNet$Stub;LLinkStateNet$Stub;)Z"⟩, prog_6_method_3_code, 2, some .boolean),
  (⟨"LinkStateNet$Description", "<init>", "(III[LLinkStateNet$LinkEnd;[LLinkStateNet$Stub;)V"⟩, prog_2_method_1_code, 7, none),
  (⟨"LinkStateNet$Description", "isNewerThan", "(LLinkStateNet$Description;)Z"⟩, prog_2_method_2_code, 2, some .boolean),
  (⟨"LinkStateNet$Description", "isSameAs", "(LLinkStateNet$Description;)Z"⟩, prog_2_method_3_code, 2, some .boolean),
  (⟨"LinkStateNet$LinkEnd", "<init>", "()V"⟩, prog_3_method_1_code, 1, none),
  (⟨"LinkStateNet$LinkEnd", "setCost", "(I)V"⟩, prog_3_method_2_code, 2, none),
  (⟨"LinkStateNet$LinkEnd", "forget", "()V"⟩, prog_3_method_3_code, 1, none),
  (⟨"LinkStateNet$LinkEnd", "oweNothing", "()V"⟩, prog_3_method_4_code, 2, none),
  (⟨"LinkStateNet$LinkEnd", "owe", "(I)V"⟩, prog_3_method_5_code, 2, none),
  (⟨"LinkStateNet$LinkEnd", "judge", "(I)V"⟩, prog_3_method_6_code, 3, none),
  (⟨"LinkStateNet$LinkEnd", "costToList", "()I"⟩, prog_3_method_7_code, 1, some .int),
  (⟨"LinkStateNet$Router", "<init>", "(I)V"⟩, prog_4_method_1_code, 3, none),
  (⟨"LinkStateNet$Router", "forgetAll", "()V"⟩, prog_4_method_2_code, 2, none),
  (⟨"LinkStateNet$Router", "drop", "(I)V"⟩, prog_4_method_3_code, 3, none),
  (⟨"LinkStateNet$Router", "noteWhoIsHeard", "()V"⟩, prog_4_method_4_code, 2, none),
  (⟨"LinkStateNet$Router", "mustDescribe", "(I)Z"⟩, prog_4_method_5_code, 2, some .boolean),
  (⟨"LinkStateNet$Router", "isStillTrue", "(LLinkStateNet$Description;)Z"⟩, prog_4_method_6_code, 3, some .boolean),
  (⟨"LinkStateNet$Router", "describe", "(I)V"⟩, prog_4_method_7_code, 2, none),
  (⟨"LinkStateNet$Router", "install", "(LLinkStateNet$Description;I)V"⟩, prog_4_method_8_code, 5, none),
  (⟨"LinkStateNet$Router", "outdo", "(I)V"⟩, prog_4_method_9_code, 2, none),
  (⟨"LinkStateNet$Update", "<init>", "()V"⟩, prog_7_method_1_code, 1, none),
  (⟨"LinkStateNet$Update", "load", "([LLinkStateNet$Description;[II)I"⟩, prog_7_method_2_code, 6, some .int),
  (⟨"LinkStateNet$Update", "isDue", "(II)Z"⟩, prog_7_method_3_code, 2, some .boolean),
  (⟨"LinkStateNet$Routes", "<init>", "()V"⟩, prog_5_method_1_code, 1, none),
  (⟨"LinkStateNet$Routes", "workOut", "([LLinkStateNet$Description;)V"⟩, prog_5_method_2_code, 4, none),
  (⟨"LinkStateNet$Routes", "edge", "(LLinkStateNet$Description;LLinkStateNet$Description;II)I"⟩, prog_5_method_3_code, 4, some .int),
  (⟨"LinkStateNet$Routes", "shortenThrough", "(I)V"⟩, prog_5_method_4_code, 5, none),
  (⟨"LinkStateNet$Routes", "firstHop", "(II)I"⟩, prog_5_method_5_code, 4, some .int),
  (⟨"LinkStateNet$Routes", "destination", "(II[LLinkStateNet$Description;)I"⟩, prog_5_method_6_code, 11, some .int),
  (⟨"LinkStateNet", "<init>", "()V"⟩, prog_1_method_1_code, 2, none),
  (⟨"LinkStateNet", "link", "(III)Z"⟩, prog_1_method_2_code, 4, some .boolean),
  (⟨"LinkStateNet", "stub", "(IIIII)Z"⟩, prog_1_method_3_code, 6, some .boolean),
  (⟨"LinkStateNet", "power", "(IZ)Z"⟩, prog_1_method_4_code, 3, some .boolean),
  (⟨"LinkStateNet", "lose", "(III)Z"⟩, prog_1_method_5_code, 4, some .boolean),
  (⟨"LinkStateNet", "pass", "(I)Z"⟩, prog_1_method_6_code, 3, some .boolean),
  (⟨"LinkStateNet", "neighbour", "(II)I"⟩, prog_1_method_7_code, 4, some .int),
  (⟨"LinkStateNet", "number", "(II)I"⟩, prog_1_method_8_code, 4, some .int),
  (⟨"LinkStateNet", "age", "(II)I"⟩, prog_1_method_9_code, 4, some .int),
  (⟨"LinkStateNet", "listed", "(III)I"⟩, prog_1_method_10_code, 5, some .int),
  (⟨"LinkStateNet", "owed", "(II)I"⟩, prog_1_method_11_code, 6, some .int),
  (⟨"LinkStateNet", "distance", "(II)I"⟩, prog_1_method_12_code, 3, some .int),
  (⟨"LinkStateNet", "hop", "(II)I"⟩, prog_1_method_13_code, 3, some .int),
  (⟨"LinkStateNet", "route", "(II)I"⟩, prog_1_method_14_code, 3, some .int),
  (⟨"LinkStateNet", "send", "(III)I"⟩, prog_1_method_15_code, 8, some .int),
  (⟨"LinkStateNet", "count", "(I)I"⟩, prog_1_method_16_code, 2, some .int),
  (⟨"LinkStateNet", "isRouter", "(I)Z"⟩, prog_1_method_17_code, 1, some .boolean),
  (⟨"LinkStateNet", "isAddress", "(I)Z"⟩, prog_1_method_18_code, 1, some .boolean),
  (⟨"LinkStateNet", "isPrefix", "(II)Z"⟩, prog_1_method_19_code, 3, some .boolean),
  (⟨"LinkStateNet", "isOn", "(I)Z"⟩, prog_1_method_20_code, 2, some .boolean),
  (⟨"LinkStateNet", "isLink", "(II)Z"⟩, prog_1_method_21_code, 3, some .boolean),
  (⟨"LinkStateNet", "tick", "()V"⟩, prog_1_method_22_code, 1, none),
  (⟨"LinkStateNet", "arrives", "(II)Z"⟩, prog_1_method_23_code, 4, some .boolean),
  (⟨"LinkStateNet", "dropExpired", "()V"⟩, prog_1_method_24_code, 4, none),
  (⟨"LinkStateNet", "exchangeHellos", "()V"⟩, prog_1_method_25_code, 3, none),
  (⟨"LinkStateNet", "sayHello", "(II)V"⟩, prog_1_method_26_code, 4, none),
  (⟨"LinkStateNet", "judgeNeighbours", "()V"⟩, prog_1_method_27_code, 3, none),
  (⟨"LinkStateNet", "oweWhatLacks", "(II)V"⟩, prog_1_method_28_code, 6, none),
  (⟨"LinkStateNet", "makeDescriptions", "()V"⟩, prog_1_method_29_code, 2, none),
  (⟨"LinkStateNet", "sendUpdates", "()V"⟩, prog_1_method_30_code, 5, none),
  (⟨"LinkStateNet", "deliverUpdates", "()V"⟩, prog_1_method_31_code, 4, none),
  (⟨"LinkStateNet", "deliver", "(LLinkStateNet$Update;II)V"⟩, prog_1_method_32_code, 7, none),
  (⟨"LinkStateNet", "take", "(LLinkStateNet$Description;II)Z"⟩, prog_1_method_33_code, 7, some .boolean),
  (⟨"LinkStateNet", "acknowledge", "(LLinkStateNet$Update;II)V"⟩, prog_1_method_34_code, 7, none),
  (⟨"LinkStateNetModel", "<init>", "()V"⟩, prog_9_method_1_code, 1, none),
  (⟨"LinkStateNetModel", "router", "(I)Z"⟩, prog_9_method_2_code, 1, some .boolean),
  (⟨"LinkStateNetModel", "linked", "(II)Z"⟩, prog_9_method_3_code, 3, some .boolean),
  (⟨"LinkStateNetModel", "cutOff", "(II)V"⟩, prog_9_method_4_code, 4, none),
  (⟨"LinkStateNetModel", "link", "(III)Z"⟩, prog_9_method_5_code, 4, some .boolean),
  (⟨"LinkStateNetModel", "stub", "(IIIII)Z"⟩, prog_9_method_6_code, 7, some .boolean),
  (⟨"LinkStateNetModel", "power", "(IZ)Z"⟩, prog_9_method_7_code, 4, some .boolean),
  (⟨"LinkStateNetModel", "lose", "(III)Z"⟩, prog_9_method_8_code, 4, some .boolean),
  (⟨"LinkStateNetModel", "copy", "(II)V"⟩, prog_9_method_9_code, 4, none),
  (⟨"LinkStateNetModel", "sameBody", "(II)Z"⟩, prog_9_method_10_code, 5, some .boolean),
  (⟨"LinkStateNetModel", "older", "(II)Z"⟩, prog_9_method_11_code, 3, some .boolean),
  (⟨"LinkStateNetModel", "same", "(II)Z"⟩, prog_9_method_12_code, 3, some .boolean),
  (⟨"LinkStateNetModel", "owe", "(IIIZ)V"⟩, prog_9_method_13_code, 6, none),
  (⟨"LinkStateNetModel", "install", "(IIII)V"⟩, prog_9_method_14_code, 6, none),
  (⟨"LinkStateNetModel", "over", "(III)Z"⟩, prog_9_method_15_code, 5, some .boolean),
  (⟨"LinkStateNetModel", "forget", "()V"⟩, prog_9_method_16_code, 3, none),
  (⟨"LinkStateNetModel", "hellos", "()V"⟩, prog_9_method_17_code, 4, none),
  (⟨"LinkStateNetModel", "neighbours", "()V"⟩, prog_9_method_18_code, 4, none),
  (⟨"LinkStateNetModel", "oweAll", "(II)V"⟩, prog_9_method_19_code, 4, none),
  (⟨"LinkStateNetModel", "make", "(I)V"⟩, prog_9_method_20_code, 6, none),
  (⟨"LinkStateNetModel", "sendUpdates", "()V"⟩, prog_9_method_21_code, 5, none),
  (⟨"LinkStateNetModel", "take", "(II)V"⟩, prog_9_method_22_code, 8, none),
  (⟨"LinkStateNetModel", "pass", "(I)Z"⟩, prog_9_method_23_code, 4, some .boolean),
  (⟨"LinkStateNetModel", "neighbour", "(II)I"⟩, prog_9_method_24_code, 4, some .int),
  (⟨"LinkStateNetModel", "number", "(II)I"⟩, prog_9_method_25_code, 3, some .int),
  (⟨"LinkStateNetModel", "age", "(II)I"⟩, prog_9_method_26_code, 3, some .int),
  (⟨"LinkStateNetModel", "listed", "(III)I"⟩, prog_9_method_27_code, 4, some .int),
  (⟨"LinkStateNetModel", "owed", "(II)I"⟩, prog_9_method_28_code, 5, some .int),
  (⟨"LinkStateNetModel", "edge", "(III)I"⟩, prog_9_method_29_code, 6, some .int),
  (⟨"LinkStateNetModel", "measure", "(I)V"⟩, prog_9_method_30_code, 5, none),
  (⟨"LinkStateNetModel", "distance", "(II)I"⟩, prog_9_method_31_code, 3, some .int),
  (⟨"LinkStateNetModel", "hop", "(II)I"⟩, prog_9_method_32_code, 6, some .int),
  (⟨"LinkStateNetModel", "route", "(II)I"⟩, prog_9_method_33_code, 11, some .int),
  (⟨"LinkStateNetModel", "send", "(III)I"⟩, prog_9_method_34_code, 9, some .int),
  (⟨"LinkStateNetModel", "count", "(I)I"⟩, prog_9_method_35_code, 2, some .int),
  (⟨"LinkStateNetLaw", "law", "([I)Z"⟩, code, 4, some .boolean)]
def am_m0 : MethodName × ByteArray × Nat × Option FieldType := (⟨"", "", ""⟩, ⟨#[]⟩, 0, none)
def am_y (j : Nat) : MethodName := (am_ms.getD j am_m0).1
def am_cc (j : Nat) : ByteArray := (am_ms.getD j am_m0).2.1
def am_ret (j : Nat) : Option FieldType := (am_ms.getD j am_m0).2.2.2
def am_own (j : Nat) : String := (am_y j).cls
def am_tb : List Cond := lw_tbl.filter goodWord
def am_ws (j : Nat) : List Cond := Cond.code (am_y j) (am_cc j) (am_nL j) (am_ret j) :: am_tb
