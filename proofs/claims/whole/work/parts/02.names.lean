def R_Row : String := "MemoryLink$Row"
def F_Row : u_T := fun k => match k with
  | 0 => ("MemoryLink$Row", "places", "[I", true)
  | 1 => ("MemoryLink$Row", "first", "I", false)
  | _ => ("MemoryLink$Row", "size", "I", false)
def t_Row : Nat → FieldType := fun k => match k with
  | 0 => .array .int
  | 1 => .int
  | _ => .int
theorem n_Row : ∀ a, a < 3 → ∀ b, b < 3 → a ≠ b → (F_Row a).2.1 ≠ (F_Row b).2.1 := by decide +kernel
theorem t_Row_ok : ∀ k, k < 3 → parseFieldDescriptor (F_Row k).2.2.1 = some (t_Row k) := by decide +kernel
def R_Inlet : String := "MemoryLink$Inlet"
def F_Inlet : u_T := fun k => match k with
  | 0 => ("MemoryLink$Inlet", "row", "LMemoryLink$Row;", true)
  | _ => ("MemoryLink$Inlet", "open", "Z", false)
def t_Inlet : Nat → FieldType := fun k => match k with
  | 0 => .object "MemoryLink$Row"
  | _ => .boolean
theorem n_Inlet : ∀ a, a < 2 → ∀ b, b < 2 → a ≠ b → (F_Inlet a).2.1 ≠ (F_Inlet b).2.1 := by decide +kernel
theorem t_Inlet_ok : ∀ k, k < 2 → parseFieldDescriptor (F_Inlet k).2.2.1 = some (t_Inlet k) := by decide +kernel
def R_Outlet : String := "MemoryLink$Outlet"
def F_Outlet : u_T := fun k => match k with
  | 0 => ("MemoryLink$Outlet", "row", "LMemoryLink$Row;", true)
  | 1 => ("MemoryLink$Outlet", "open", "Z", false)
  | _ => ("MemoryLink$Outlet", "throwing", "Z", false)
def t_Outlet : Nat → FieldType := fun k => match k with
  | 0 => .object "MemoryLink$Row"
  | 1 => .boolean
  | _ => .boolean
theorem n_Outlet : ∀ a, a < 3 → ∀ b, b < 3 → a ≠ b → (F_Outlet a).2.1 ≠ (F_Outlet b).2.1 := by decide +kernel
theorem t_Outlet_ok : ∀ k, k < 3 → parseFieldDescriptor (F_Outlet k).2.2.1 = some (t_Outlet k) := by decide +kernel
def R_Packet : String := "MemoryLink$Packet"
def F_Packet : u_T := fun k => match k with
  | 0 => ("MemoryLink$Packet", "places", "[I", true)
  | _ => ("MemoryLink$Packet", "count", "I", false)
def t_Packet : Nat → FieldType := fun k => match k with
  | 0 => .array .int
  | _ => .int
theorem n_Packet : ∀ a, a < 2 → ∀ b, b < 2 → a ≠ b → (F_Packet a).2.1 ≠ (F_Packet b).2.1 := by decide +kernel
theorem t_Packet_ok : ∀ k, k < 2 → parseFieldDescriptor (F_Packet k).2.2.1 = some (t_Packet k) := by decide +kernel
def R_End : String := "MemoryLink$End"
def F_End : u_T := fun k => match k with
  | 0 => ("MemoryLink$End", "in", "LMemoryLink$Inlet;", true)
  | 1 => ("MemoryLink$End", "out", "LMemoryLink$Outlet;", true)
  | 2 => ("MemoryLink$End", "enabled", "Z", false)
  | 3 => ("MemoryLink$End", "auto", "Z", false)
  | 4 => ("MemoryLink$End", "heard", "Z", false)
  | 5 => ("MemoryLink$End", "fault", "Z", false)
  | 6 => ("MemoryLink$End", "runBegan", "Z", false)
  | 7 => ("MemoryLink$End", "state", "I", false)
  | 8 => ("MemoryLink$End", "clock", "I", false)
  | 9 => ("MemoryLink$End", "silence", "I", false)
  | 10 => ("MemoryLink$End", "loan", "I", false)
  | 11 => ("MemoryLink$End", "owed", "I", false)
  | 12 => ("MemoryLink$End", "falls", "I", false)
  | 13 => ("MemoryLink$End", "time", "I", false)
  | 14 => ("MemoryLink$End", "goodTimes", "I", false)
  | 15 => ("MemoryLink$End", "askedTime", "I", false)
  | 16 => ("MemoryLink$End", "spoilNext", "Z", false)
  | 17 => ("MemoryLink$End", "sent", "I", false)
  | _ => ("MemoryLink$End", "sentSpoiled", "Z", false)
def t_End : Nat → FieldType := fun k => match k with
  | 0 => .object "MemoryLink$Inlet"
  | 1 => .object "MemoryLink$Outlet"
  | 2 => .boolean
  | 3 => .boolean
  | 4 => .boolean
  | 5 => .boolean
  | 6 => .boolean
  | 7 => .int
  | 8 => .int
  | 9 => .int
  | 10 => .int
  | 11 => .int
  | 12 => .int
  | 13 => .int
  | 14 => .int
  | 15 => .int
  | 16 => .boolean
  | 17 => .int
  | _ => .boolean
theorem n_End : ∀ a, a < 19 → ∀ b, b < 19 → a ≠ b → (F_End a).2.1 ≠ (F_End b).2.1 := by decide +kernel
theorem t_End_ok : ∀ k, k < 19 → parseFieldDescriptor (F_End k).2.2.1 = some (t_End k) := by decide +kernel
def R_Target : String := "MemoryLink$Target"
def F_Target : u_T := fun k => match k with
  | 0 => ("MemoryLink$Target", "bytes", "[I", true)
  | 1 => ("MemoryLink$Target", "packet", "LMemoryLink$Packet;", true)
  | 2 => ("MemoryLink$Target", "answer", "LMemoryLink$Packet;", true)
  | 3 => ("MemoryLink$Target", "reply", "LMemoryLink$Packet;", true)
  | 4 => ("MemoryLink$Target", "replyWaits", "Z", false)
  | 5 => ("MemoryLink$Target", "commandCount", "I", false)
  | _ => ("MemoryLink$Target", "latestStatus", "I", false)
def t_Target : Nat → FieldType := fun k => match k with
  | 0 => .array .int
  | 1 => .object "MemoryLink$Packet"
  | 2 => .object "MemoryLink$Packet"
  | 3 => .object "MemoryLink$Packet"
  | 4 => .boolean
  | 5 => .int
  | _ => .int
theorem n_Target : ∀ a, a < 7 → ∀ b, b < 7 → a ≠ b → (F_Target a).2.1 ≠ (F_Target b).2.1 := by decide +kernel
theorem t_Target_ok : ∀ k, k < 7 → parseFieldDescriptor (F_Target k).2.2.1 = some (t_Target k) := by decide +kernel
def R_MemoryLink : String := "MemoryLink"
def F_MemoryLink : u_T := fun k => match k with
  | 0 => ("MemoryLink", "near", "LMemoryLink$End;", true)
  | 1 => ("MemoryLink", "far", "LMemoryLink$End;", true)
  | 2 => ("MemoryLink", "targetOn", "Z", true)
  | 3 => ("MemoryLink", "memoryTarget", "LMemoryLink$Target;", true)
  | _ => ("MemoryLink", "draft", "LMemoryLink$Packet;", true)
def t_MemoryLink : Nat → FieldType := fun k => match k with
  | 0 => .object "MemoryLink$End"
  | 1 => .object "MemoryLink$End"
  | 2 => .boolean
  | 3 => .object "MemoryLink$Target"
  | _ => .object "MemoryLink$Packet"
theorem n_MemoryLink : ∀ a, a < 5 → ∀ b, b < 5 → a ≠ b → (F_MemoryLink a).2.1 ≠ (F_MemoryLink b).2.1 := by decide +kernel
theorem t_MemoryLink_ok : ∀ k, k < 5 → parseFieldDescriptor (F_MemoryLink k).2.2.1 = some (t_MemoryLink k) := by decide +kernel
def R_Model : String := "MemoryLinkModel"
def F_Model : u_T := fun k => match k with
  | 0 => ("MemoryLinkModel", "target", "Z", true)
  | 1 => ("MemoryLinkModel", "state", "[I", true)
  | 2 => ("MemoryLinkModel", "clock", "[I", true)
  | 3 => ("MemoryLinkModel", "enabled", "[Z", true)
  | 4 => ("MemoryLinkModel", "auto", "[Z", true)
  | 5 => ("MemoryLinkModel", "heard", "[Z", true)
  | 6 => ("MemoryLinkModel", "quiet", "[Z", true)
  | 7 => ("MemoryLinkModel", "loan", "[I", true)
  | 8 => ("MemoryLinkModel", "owed", "[I", true)
  | 9 => ("MemoryLinkModel", "falls", "[I", true)
  | 10 => ("MemoryLinkModel", "times", "[I", true)
  | 11 => ("MemoryLinkModel", "goods", "[I", true)
  | 12 => ("MemoryLinkModel", "asked", "[I", true)
  | 13 => ("MemoryLinkModel", "spoiling", "[Z", true)
  | 14 => ("MemoryLinkModel", "sent", "[I", true)
  | 15 => ("MemoryLinkModel", "spoiled", "[Z", true)
  | 16 => ("MemoryLinkModel", "rows", "[I", true)
  | 17 => ("MemoryLinkModel", "sizes", "[I", true)
  | 18 => ("MemoryLinkModel", "open", "[Z", true)
  | 19 => ("MemoryLinkModel", "throwing", "[Z", true)
  | 20 => ("MemoryLinkModel", "memory", "[I", true)
  | 21 => ("MemoryLinkModel", "packet", "[I", true)
  | 22 => ("MemoryLinkModel", "count", "I", false)
  | 23 => ("MemoryLinkModel", "commands", "I", false)
  | 24 => ("MemoryLinkModel", "status", "I", false)
  | 25 => ("MemoryLinkModel", "reply", "[I", true)
  | 26 => ("MemoryLinkModel", "replies", "I", false)
  | _ => ("MemoryLinkModel", "draft", "[I", true)
def t_Model : Nat → FieldType := fun k => match k with
  | 0 => .boolean
  | 1 => .array .int
  | 2 => .array .int
  | 3 => .array .boolean
  | 4 => .array .boolean
  | 5 => .array .boolean
  | 6 => .array .boolean
  | 7 => .array .int
  | 8 => .array .int
  | 9 => .array .int
  | 10 => .array .int
  | 11 => .array .int
  | 12 => .array .int
  | 13 => .array .boolean
  | 14 => .array .int
  | 15 => .array .boolean
  | 16 => .array .int
  | 17 => .array .int
  | 18 => .array .boolean
  | 19 => .array .boolean
  | 20 => .array .int
  | 21 => .array .int
  | 22 => .int
  | 23 => .int
  | 24 => .int
  | 25 => .array .int
  | 26 => .int
  | _ => .array .int
theorem n_Model : ∀ a, a < 28 → ∀ b, b < 28 → a ≠ b → (F_Model a).2.1 ≠ (F_Model b).2.1 := by decide +kernel
theorem t_Model_ok : ∀ k, k < 28 → parseFieldDescriptor (F_Model k).2.2.1 = some (t_Model k) := by decide +kernel
def R_Law : String := "MemoryLinkLaw"
abbrev vwCl : List vw_C := [(R_Row, F_Row, 3), (R_Inlet, F_Inlet, 2), (R_Outlet, F_Outlet, 3), (R_Packet, F_Packet, 2), (R_End, F_End, 19), (R_Target, F_Target, 7), (R_MemoryLink, F_MemoryLink, 5), (R_Model, F_Model, 28)]
def wU : List Cond := lw_tbl.filter goodWord
def xNs : List Cond := tables_1.filter xIsN
abbrev b_MemoryLink_init : ByteArray := prog_1_method_1_code
def y_MemoryLink_init : MethodName := ⟨"MemoryLink", "<init>", "(I)V"⟩
abbrev w_MemoryLink_init : List Cond := .code y_MemoryLink_init b_MemoryLink_init 2 none :: wU
abbrev b_MemoryLink_control : ByteArray := prog_1_method_2_code
def y_MemoryLink_control : MethodName := ⟨"MemoryLink", "control", "(IZZ)Z"⟩
abbrev w_MemoryLink_control : List Cond := .code y_MemoryLink_control b_MemoryLink_control 4 (some .boolean) :: wU
abbrev b_MemoryLink_run : ByteArray := prog_1_method_3_code
def y_MemoryLink_run : MethodName := ⟨"MemoryLink", "run", "(I)I"⟩
abbrev w_MemoryLink_run : List Cond := .code y_MemoryLink_run b_MemoryLink_run 3 (some .int) :: wU
abbrev b_MemoryLink_put : ByteArray := prog_1_method_4_code
def y_MemoryLink_put : MethodName := ⟨"MemoryLink", "put", "(II)I"⟩
abbrev w_MemoryLink_put : List Cond := .code y_MemoryLink_put b_MemoryLink_put 4 (some .int) :: wU
abbrev b_MemoryLink_command : ByteArray := prog_1_method_5_code
def y_MemoryLink_command : MethodName := ⟨"MemoryLink", "command", "(IIIIIII)I"⟩
abbrev w_MemoryLink_command : List Cond := .code y_MemoryLink_command b_MemoryLink_command 9 (some .int) :: wU
abbrev b_MemoryLink_take : ByteArray := prog_1_method_6_code
def y_MemoryLink_take : MethodName := ⟨"MemoryLink", "take", "(I)I"⟩
abbrev w_MemoryLink_take : List Cond := .code y_MemoryLink_take b_MemoryLink_take 2 (some .int) :: wU
abbrev b_MemoryLink_sendTime : ByteArray := prog_1_method_7_code
def y_MemoryLink_sendTime : MethodName := ⟨"MemoryLink", "sendTime", "(II)Z"⟩
abbrev w_MemoryLink_sendTime : List Cond := .code y_MemoryLink_sendTime b_MemoryLink_sendTime 3 (some .boolean) :: wU
abbrev b_MemoryLink_spoil : ByteArray := prog_1_method_8_code
def y_MemoryLink_spoil : MethodName := ⟨"MemoryLink", "spoil", "(I)Z"⟩
abbrev w_MemoryLink_spoil : List Cond := .code y_MemoryLink_spoil b_MemoryLink_spoil 2 (some .boolean) :: wU
abbrev b_MemoryLink_look : ByteArray := prog_1_method_9_code
def y_MemoryLink_look : MethodName := ⟨"MemoryLink", "look", "(II)I"⟩
abbrev w_MemoryLink_look : List Cond := .code y_MemoryLink_look b_MemoryLink_look 3 (some .int) :: wU
abbrev b_MemoryLink_memory : ByteArray := prog_1_method_10_code
def y_MemoryLink_memory : MethodName := ⟨"MemoryLink", "memory", "(I)I"⟩
abbrev w_MemoryLink_memory : List Cond := .code y_MemoryLink_memory b_MemoryLink_memory 2 (some .int) :: wU
abbrev b_MemoryLink_commands : ByteArray := prog_1_method_11_code
def y_MemoryLink_commands : MethodName := ⟨"MemoryLink", "commands", "()I"⟩
abbrev w_MemoryLink_commands : List Cond := .code y_MemoryLink_commands b_MemoryLink_commands 1 (some .int) :: wU
abbrev b_MemoryLink_status : ByteArray := prog_1_method_12_code
def y_MemoryLink_status : MethodName := ⟨"MemoryLink", "status", "()I"⟩
abbrev w_MemoryLink_status : List Cond := .code y_MemoryLink_status b_MemoryLink_status 1 (some .int) :: wU
abbrev b_MemoryLink_isEnd : ByteArray := prog_1_method_13_code
def y_MemoryLink_isEnd : MethodName := ⟨"MemoryLink", "isEnd", "(I)Z"⟩
abbrev w_MemoryLink_isEnd : List Cond := .code y_MemoryLink_isEnd b_MemoryLink_isEnd 1 (some .boolean) :: wU
abbrev b_MemoryLink_isByte : ByteArray := prog_1_method_14_code
def y_MemoryLink_isByte : MethodName := ⟨"MemoryLink", "isByte", "(I)Z"⟩
abbrev w_MemoryLink_isByte : List Cond := .code y_MemoryLink_isByte b_MemoryLink_isByte 1 (some .boolean) :: wU
abbrev b_MemoryLink_isData : ByteArray := prog_1_method_15_code
def y_MemoryLink_isData : MethodName := ⟨"MemoryLink", "isData", "(I)Z"⟩
abbrev w_MemoryLink_isData : List Cond := .code y_MemoryLink_isData b_MemoryLink_isData 1 (some .boolean) :: wU
abbrev b_MemoryLink_endOf : ByteArray := prog_1_method_16_code
def y_MemoryLink_endOf : MethodName := ⟨"MemoryLink", "endOf", "(I)LMemoryLink$End;"⟩
abbrev w_MemoryLink_endOf : List Cond := .code y_MemoryLink_endOf b_MemoryLink_endOf 2 (some (.object "MemoryLink$End")) :: wU
abbrev b_MemoryLink_tick : ByteArray := prog_1_method_17_code
def y_MemoryLink_tick : MethodName := ⟨"MemoryLink", "tick", "()V"⟩
abbrev w_MemoryLink_tick : List Cond := .code y_MemoryLink_tick b_MemoryLink_tick 1 none :: wU
abbrev b_MemoryLink_draftHead : ByteArray := prog_1_method_18_code
def y_MemoryLink_draftHead : MethodName := ⟨"MemoryLink", "draftHead", "(IIIIII)V"⟩
abbrev w_MemoryLink_draftHead : List Cond := .code y_MemoryLink_draftHead b_MemoryLink_draftHead 8 none :: wU
abbrev b_MemoryLink_draftData : ByteArray := prog_1_method_19_code
def y_MemoryLink_draftData : MethodName := ⟨"MemoryLink", "draftData", "(III)V"⟩
abbrev w_MemoryLink_draftData : List Cond := .code y_MemoryLink_draftData b_MemoryLink_draftData 5 none :: wU
abbrev b_Model_init : ByteArray := prog_9_method_1_code
def y_Model_init : MethodName := ⟨"MemoryLinkModel", "<init>", "(I)V"⟩
abbrev w_Model_init : List Cond := .code y_Model_init b_Model_init 3 none :: wU
abbrev b_Model_isEnd : ByteArray := prog_9_method_2_code
def y_Model_isEnd : MethodName := ⟨"MemoryLinkModel", "isEnd", "(I)Z"⟩
abbrev w_Model_isEnd : List Cond := .code y_Model_isEnd b_Model_isEnd 1 (some .boolean) :: wU
abbrev b_Model_add : ByteArray := prog_9_method_3_code
def y_Model_add : MethodName := ⟨"MemoryLinkModel", "add", "(II)V"⟩
abbrev w_Model_add : List Cond := .code y_Model_add b_Model_add 3 none :: wU
abbrev b_Model_remove : ByteArray := prog_9_method_4_code
def y_Model_remove : MethodName := ⟨"MemoryLinkModel", "remove", "(I)I"⟩
abbrev w_Model_remove : List Cond := .code y_Model_remove b_Model_remove 4 (some .int) :: wU
abbrev b_Model_append : ByteArray := prog_9_method_5_code
def y_Model_append : MethodName := ⟨"MemoryLinkModel", "append", "(II)V"⟩
abbrev w_Model_append : List Cond := .code y_Model_append b_Model_append 3 none :: wU
abbrev b_Model_arrival : ByteArray := prog_9_method_6_code
def y_Model_arrival : MethodName := ⟨"MemoryLinkModel", "arrival", "(IIZ)Z"⟩
abbrev w_Model_arrival : List Cond := .code y_Model_arrival b_Model_arrival 8 (some .boolean) :: wU
abbrev b_Model_fall : ByteArray := prog_9_method_7_code
def y_Model_fall : MethodName := ⟨"MemoryLinkModel", "fall", "(I)V"⟩
abbrev w_Model_fall : List Cond := .code y_Model_fall b_Model_fall 3 none :: wU
abbrev b_Model_late : ByteArray := prog_9_method_8_code
def y_Model_late : MethodName := ⟨"MemoryLinkModel", "late", "(I)Z"⟩
abbrev w_Model_late : List Cond := .code y_Model_late b_Model_late 5 (some .boolean) :: wU
abbrev b_Model_canLend : ByteArray := prog_9_method_9_code
def y_Model_canLend : MethodName := ⟨"MemoryLinkModel", "canLend", "(I)Z"⟩
abbrev w_Model_canLend : List Cond := .code y_Model_canLend b_Model_canLend 2 (some .boolean) :: wU
abbrev b_Model_choose : ByteArray := prog_9_method_10_code
def y_Model_choose : MethodName := ⟨"MemoryLinkModel", "choose", "(I)I"⟩
abbrev w_Model_choose : List Cond := .code y_Model_choose b_Model_choose 4 (some .int) :: wU
abbrev b_Model_send : ByteArray := prog_9_method_11_code
def y_Model_send : MethodName := ⟨"MemoryLinkModel", "send", "(I)V"⟩
abbrev w_Model_send : List Cond := .code y_Model_send b_Model_send 3 none :: wU
abbrev b_Model_tick : ByteArray := prog_9_method_12_code
def y_Model_tick : MethodName := ⟨"MemoryLinkModel", "tick", "()V"⟩
abbrev w_Model_tick : List Cond := .code y_Model_tick b_Model_tick 3 none :: wU
abbrev b_Model_run : ByteArray := prog_9_method_13_code
def y_Model_run : MethodName := ⟨"MemoryLinkModel", "run", "(I)I"⟩
abbrev w_Model_run : List Cond := .code y_Model_run b_Model_run 3 (some .int) :: wU
abbrev b_Model_mixed : ByteArray := prog_9_method_14_code
def y_Model_mixed : MethodName := ⟨"MemoryLinkModel", "mixed", "(II)I"⟩
abbrev w_Model_mixed : List Cond := .code y_Model_mixed b_Model_mixed 5 (some .int) :: wU
abbrev b_Model_checkOf : ByteArray := prog_9_method_15_code
def y_Model_checkOf : MethodName := ⟨"MemoryLinkModel", "checkOf", "(II)I"⟩
abbrev w_Model_checkOf : List Cond := .code y_Model_checkOf b_Model_checkOf 5 (some .int) :: wU
abbrev b_Model_has : ByteArray := prog_9_method_16_code
def y_Model_has : MethodName := ⟨"MemoryLinkModel", "has", "(I)Z"⟩
abbrev w_Model_has : List Cond := .code y_Model_has b_Model_has 2 (some .boolean) :: wU
abbrev b_Model_dataStatus : ByteArray := prog_9_method_17_code
def y_Model_dataStatus : MethodName := ⟨"MemoryLinkModel", "dataStatus", "(I)I"⟩
abbrev w_Model_dataStatus : List Cond := .code y_Model_dataStatus b_Model_dataStatus 3 (some .int) :: wU
abbrev b_Model_judge : ByteArray := prog_9_method_18_code
def y_Model_judge : MethodName := ⟨"MemoryLinkModel", "judge", "()I"⟩
abbrev w_Model_judge : List Cond := .code y_Model_judge b_Model_judge 7 (some .int) :: wU
abbrev b_Model_addressOf : ByteArray := prog_9_method_19_code
def y_Model_addressOf : MethodName := ⟨"MemoryLinkModel", "addressOf", "(I)I"⟩
abbrev w_Model_addressOf : List Cond := .code y_Model_addressOf b_Model_addressOf 2 (some .int) :: wU
abbrev b_Model_writeData : ByteArray := prog_9_method_20_code
def y_Model_writeData : MethodName := ⟨"MemoryLinkModel", "writeData", "()V"⟩
abbrev w_Model_writeData : List Cond := .code y_Model_writeData b_Model_writeData 4 none :: wU
abbrev b_Model_changeBits : ByteArray := prog_9_method_21_code
def y_Model_changeBits : MethodName := ⟨"MemoryLinkModel", "changeBits", "(I)V"⟩
abbrev w_Model_changeBits : List Cond := .code y_Model_changeBits b_Model_changeBits 4 none :: wU
abbrev b_Model_say : ByteArray := prog_9_method_22_code
def y_Model_say : MethodName := ⟨"MemoryLinkModel", "say", "(I)V"⟩
abbrev w_Model_say : List Cond := .code y_Model_say b_Model_say 2 none :: wU
abbrev b_Model_sayCheck : ByteArray := prog_9_method_23_code
def y_Model_sayCheck : MethodName := ⟨"MemoryLinkModel", "sayCheck", "(I)V"⟩
abbrev w_Model_sayCheck : List Cond := .code y_Model_sayCheck b_Model_sayCheck 4 none :: wU
abbrev b_Model_obey : ByteArray := prog_9_method_24_code
def y_Model_obey : MethodName := ⟨"MemoryLinkModel", "obey", "()V"⟩
abbrev w_Model_obey : List Cond := .code y_Model_obey b_Model_obey 5 none :: wU
abbrev b_Model_collect : ByteArray := prog_9_method_25_code
def y_Model_collect : MethodName := ⟨"MemoryLinkModel", "collect", "(I)V"⟩
abbrev w_Model_collect : List Cond := .code y_Model_collect b_Model_collect 2 none :: wU
abbrev b_Model_work : ByteArray := prog_9_method_26_code
def y_Model_work : MethodName := ⟨"MemoryLinkModel", "work", "()V"⟩
abbrev w_Model_work : List Cond := .code y_Model_work b_Model_work 2 none :: wU
abbrev b_Model_control : ByteArray := prog_9_method_27_code
def y_Model_control : MethodName := ⟨"MemoryLinkModel", "control", "(IZZ)Z"⟩
abbrev w_Model_control : List Cond := .code y_Model_control b_Model_control 4 (some .boolean) :: wU
abbrev b_Model_put : ByteArray := prog_9_method_28_code
def y_Model_put : MethodName := ⟨"MemoryLinkModel", "put", "(II)I"⟩
abbrev w_Model_put : List Cond := .code y_Model_put b_Model_put 3 (some .int) :: wU
abbrev b_Model_fits : ByteArray := prog_9_method_29_code
def y_Model_fits : MethodName := ⟨"MemoryLinkModel", "fits", "(II)Z"⟩
abbrev w_Model_fits : List Cond := .code y_Model_fits b_Model_fits 2 (some .boolean) :: wU
abbrev b_Model_command : ByteArray := prog_9_method_30_code
def y_Model_command : MethodName := ⟨"MemoryLinkModel", "command", "(IIIIIII)I"⟩
abbrev w_Model_command : List Cond := .code y_Model_command b_Model_command 12 (some .int) :: wU
abbrev b_Model_take : ByteArray := prog_9_method_31_code
def y_Model_take : MethodName := ⟨"MemoryLinkModel", "take", "(I)I"⟩
abbrev w_Model_take : List Cond := .code y_Model_take b_Model_take 2 (some .int) :: wU
abbrev b_Model_sendTime : ByteArray := prog_9_method_32_code
def y_Model_sendTime : MethodName := ⟨"MemoryLinkModel", "sendTime", "(II)Z"⟩
abbrev w_Model_sendTime : List Cond := .code y_Model_sendTime b_Model_sendTime 3 (some .boolean) :: wU
abbrev b_Model_spoil : ByteArray := prog_9_method_33_code
def y_Model_spoil : MethodName := ⟨"MemoryLinkModel", "spoil", "(I)Z"⟩
abbrev w_Model_spoil : List Cond := .code y_Model_spoil b_Model_spoil 2 (some .boolean) :: wU
abbrev b_Model_look : ByteArray := prog_9_method_34_code
def y_Model_look : MethodName := ⟨"MemoryLinkModel", "look", "(II)I"⟩
abbrev w_Model_look : List Cond := .code y_Model_look b_Model_look 3 (some .int) :: wU
abbrev b_Model_memory : ByteArray := prog_9_method_35_code
def y_Model_memory : MethodName := ⟨"MemoryLinkModel", "memory", "(I)I"⟩
abbrev w_Model_memory : List Cond := .code y_Model_memory b_Model_memory 2 (some .int) :: wU
abbrev b_Model_commands : ByteArray := prog_9_method_36_code
def y_Model_commands : MethodName := ⟨"MemoryLinkModel", "commands", "()I"⟩
abbrev w_Model_commands : List Cond := .code y_Model_commands b_Model_commands 1 (some .int) :: wU
abbrev b_Model_status : ByteArray := prog_9_method_37_code
def y_Model_status : MethodName := ⟨"MemoryLinkModel", "status", "()I"⟩
abbrev w_Model_status : List Cond := .code y_Model_status b_Model_status 1 (some .int) :: wU
abbrev b_End_init : ByteArray := prog_2_method_1_code
def y_End_init : MethodName := ⟨"MemoryLink$End", "<init>", "()V"⟩
abbrev w_End_init : List Cond := .code y_End_init b_End_init 1 none :: wU
abbrev b_End_allow : ByteArray := prog_2_method_2_code
def y_End_allow : MethodName := ⟨"MemoryLink$End", "allow", "(ZZ)V"⟩
abbrev w_End_allow : List Cond := .code y_End_allow b_End_allow 3 none :: wU
abbrev b_End_arrival : ByteArray := prog_2_method_3_code
def y_End_arrival : MethodName := ⟨"MemoryLink$End", "arrival", "(IZ)V"⟩
abbrev w_End_arrival : List Cond := .code y_End_arrival b_End_arrival 3 none :: wU
abbrev b_End_noticeSilence : ByteArray := prog_2_method_4_code
def y_End_noticeSilence : MethodName := ⟨"MemoryLink$End", "noticeSilence", "()V"⟩
abbrev w_End_noticeSilence : List Cond := .code y_End_noticeSilence b_End_noticeSilence 1 none :: wU
abbrev b_End_arriveCredit : ByteArray := prog_2_method_5_code
def y_End_arriveCredit : MethodName := ⟨"MemoryLink$End", "arriveCredit", "()V"⟩
abbrev w_End_arriveCredit : List Cond := .code y_End_arriveCredit b_End_arriveCredit 1 none :: wU
abbrev b_End_arriveTime : ByteArray := prog_2_method_6_code
def y_End_arriveTime : MethodName := ⟨"MemoryLink$End", "arriveTime", "(I)V"⟩
abbrev w_End_arriveTime : List Cond := .code y_End_arriveTime b_End_arriveTime 2 none :: wU
abbrev b_End_arrivePacketCharacter : ByteArray := prog_2_method_7_code
def y_End_arrivePacketCharacter : MethodName := ⟨"MemoryLink$End", "arrivePacketCharacter", "(I)V"⟩
abbrev w_End_arrivePacketCharacter : List Cond := .code y_End_arrivePacketCharacter b_End_arrivePacketCharacter 2 none :: wU
abbrev b_End_moveOn : ByteArray := prog_2_method_8_code
def y_End_moveOn : MethodName := ⟨"MemoryLink$End", "moveOn", "()V"⟩
abbrev w_End_moveOn : List Cond := .code y_End_moveOn b_End_moveOn 1 none :: wU
abbrev b_End_begin : ByteArray := prog_2_method_9_code
def y_End_begin : MethodName := ⟨"MemoryLink$End", "begin", "(I)V"⟩
abbrev w_End_begin : List Cond := .code y_End_begin b_End_begin 2 none :: wU
abbrev b_End_beginAfter : ByteArray := prog_2_method_10_code
def y_End_beginAfter : MethodName := ⟨"MemoryLink$End", "beginAfter", "(II)V"⟩
abbrev w_End_beginAfter : List Cond := .code y_End_beginAfter b_End_beginAfter 3 none :: wU
abbrev b_End_fallAfterPatience : ByteArray := prog_2_method_11_code
def y_End_fallAfterPatience : MethodName := ⟨"MemoryLink$End", "fallAfterPatience", "()V"⟩
abbrev w_End_fallAfterPatience : List Cond := .code y_End_fallAfterPatience b_End_fallAfterPatience 1 none :: wU
abbrev b_End_fall : ByteArray := prog_2_method_12_code
def y_End_fall : MethodName := ⟨"MemoryLink$End", "fall", "()V"⟩
abbrev w_End_fall : List Cond := .code y_End_fall b_End_fall 1 none :: wU
abbrev b_End_transmit : ByteArray := prog_2_method_13_code
def y_End_transmit : MethodName := ⟨"MemoryLink$End", "transmit", "()V"⟩
abbrev w_End_transmit : List Cond := .code y_End_transmit b_End_transmit 1 none :: wU
abbrev b_End_nextCharacter : ByteArray := prog_2_method_14_code
def y_End_nextCharacter : MethodName := ⟨"MemoryLink$End", "nextCharacter", "()I"⟩
abbrev w_End_nextCharacter : List Cond := .code y_End_nextCharacter b_End_nextCharacter 1 (some .int) :: wU
abbrev b_End_nextInRun : ByteArray := prog_2_method_15_code
def y_End_nextInRun : MethodName := ⟨"MemoryLink$End", "nextInRun", "()I"⟩
abbrev w_End_nextInRun : List Cond := .code y_End_nextInRun b_End_nextInRun 2 (some .int) :: wU
abbrev b_End_canLend : ByteArray := prog_2_method_16_code
def y_End_canLend : MethodName := ⟨"MemoryLink$End", "canLend", "()Z"⟩
abbrev w_End_canLend : List Cond := .code y_End_canLend b_End_canLend 1 (some .boolean) :: wU
abbrev b_End_lend : ByteArray := prog_2_method_17_code
def y_End_lend : MethodName := ⟨"MemoryLink$End", "lend", "()I"⟩
abbrev w_End_lend : List Cond := .code y_End_lend b_End_lend 1 (some .int) :: wU
abbrev b_End_report : ByteArray := prog_2_method_18_code
def y_End_report : MethodName := ⟨"MemoryLink$End", "report", "(I)I"⟩
abbrev w_End_report : List Cond := .code y_End_report b_End_report 2 (some .int) :: wU
abbrev b_Inlet_init : ByteArray := prog_3_method_1_code
def y_Inlet_init : MethodName := ⟨"MemoryLink$Inlet", "<init>", "()V"⟩
abbrev w_Inlet_init : List Cond := .code y_Inlet_init b_Inlet_init 1 none :: wU
abbrev b_Inlet_size : ByteArray := prog_3_method_2_code
def y_Inlet_size : MethodName := ⟨"MemoryLink$Inlet", "size", "()I"⟩
abbrev w_Inlet_size : List Cond := .code y_Inlet_size b_Inlet_size 1 (some .int) :: wU
abbrev b_Inlet_receive : ByteArray := prog_3_method_3_code
def y_Inlet_receive : MethodName := ⟨"MemoryLink$Inlet", "receive", "(I)V"⟩
abbrev w_Inlet_receive : List Cond := .code y_Inlet_receive b_Inlet_receive 2 none :: wU
abbrev b_Inlet_removeFirst : ByteArray := prog_3_method_4_code
def y_Inlet_removeFirst : MethodName := ⟨"MemoryLink$Inlet", "removeFirst", "()I"⟩
abbrev w_Inlet_removeFirst : List Cond := .code y_Inlet_removeFirst b_Inlet_removeFirst 1 (some .int) :: wU
abbrev b_Inlet_breakOff : ByteArray := prog_3_method_5_code
def y_Inlet_breakOff : MethodName := ⟨"MemoryLink$Inlet", "breakOff", "()V"⟩
abbrev w_Inlet_breakOff : List Cond := .code y_Inlet_breakOff b_Inlet_breakOff 1 none :: wU
abbrev b_Outlet_init : ByteArray := prog_4_method_1_code
def y_Outlet_init : MethodName := ⟨"MemoryLink$Outlet", "<init>", "()V"⟩
abbrev w_Outlet_init : List Cond := .code y_Outlet_init b_Outlet_init 1 none :: wU
abbrev b_Outlet_size : ByteArray := prog_4_method_2_code
def y_Outlet_size : MethodName := ⟨"MemoryLink$Outlet", "size", "()I"⟩
abbrev w_Outlet_size : List Cond := .code y_Outlet_size b_Outlet_size 1 (some .int) :: wU
abbrev b_Outlet_free : ByteArray := prog_4_method_3_code
def y_Outlet_free : MethodName := ⟨"MemoryLink$Outlet", "free", "()I"⟩
abbrev w_Outlet_free : List Cond := .code y_Outlet_free b_Outlet_free 1 (some .int) :: wU
abbrev b_Outlet_accept : ByteArray := prog_4_method_4_code
def y_Outlet_accept : MethodName := ⟨"MemoryLink$Outlet", "accept", "(I)V"⟩
abbrev w_Outlet_accept : List Cond := .code y_Outlet_accept b_Outlet_accept 2 none :: wU
abbrev b_Outlet_acceptAll : ByteArray := prog_4_method_5_code
def y_Outlet_acceptAll : MethodName := ⟨"MemoryLink$Outlet", "acceptAll", "(LMemoryLink$Packet;)V"⟩
abbrev w_Outlet_acceptAll : List Cond := .code y_Outlet_acceptAll b_Outlet_acceptAll 3 none :: wU
abbrev b_Outlet_removeFirst : ByteArray := prog_4_method_6_code
def y_Outlet_removeFirst : MethodName := ⟨"MemoryLink$Outlet", "removeFirst", "()I"⟩
abbrev w_Outlet_removeFirst : List Cond := .code y_Outlet_removeFirst b_Outlet_removeFirst 2 (some .int) :: wU
abbrev b_Outlet_breakOff : ByteArray := prog_4_method_7_code
def y_Outlet_breakOff : MethodName := ⟨"MemoryLink$Outlet", "breakOff", "()V"⟩
abbrev w_Outlet_breakOff : List Cond := .code y_Outlet_breakOff b_Outlet_breakOff 2 none :: wU
abbrev b_Packet_init : ByteArray := prog_5_method_1_code
def y_Packet_init : MethodName := ⟨"MemoryLink$Packet", "<init>", "(I)V"⟩
abbrev w_Packet_init : List Cond := .code y_Packet_init b_Packet_init 2 none :: wU
abbrev b_Packet_clear : ByteArray := prog_5_method_2_code
def y_Packet_clear : MethodName := ⟨"MemoryLink$Packet", "clear", "()V"⟩
abbrev w_Packet_clear : List Cond := .code y_Packet_clear b_Packet_clear 1 none :: wU
abbrev b_Packet_add : ByteArray := prog_5_method_3_code
def y_Packet_add : MethodName := ⟨"MemoryLink$Packet", "add", "(I)V"⟩
abbrev w_Packet_add : List Cond := .code y_Packet_add b_Packet_add 2 none :: wU
abbrev b_Packet_at : ByteArray := prog_5_method_4_code
def y_Packet_at : MethodName := ⟨"MemoryLink$Packet", "at", "(I)I"⟩
abbrev w_Packet_at : List Cond := .code y_Packet_at b_Packet_at 2 (some .int) :: wU
abbrev b_Packet_check : ByteArray := prog_5_method_5_code
def y_Packet_check : MethodName := ⟨"MemoryLink$Packet", "check", "(II)I"⟩
abbrev w_Packet_check : List Cond := .code y_Packet_check b_Packet_check 6 (some .int) :: wU
abbrev b_Row_init : ByteArray := prog_6_method_1_code
def y_Row_init : MethodName := ⟨"MemoryLink$Row", "<init>", "(I)V"⟩
abbrev w_Row_init : List Cond := .code y_Row_init b_Row_init 2 none :: wU
abbrev b_Row_free : ByteArray := prog_6_method_2_code
def y_Row_free : MethodName := ⟨"MemoryLink$Row", "free", "()I"⟩
abbrev w_Row_free : List Cond := .code y_Row_free b_Row_free 1 (some .int) :: wU
abbrev b_Row_append : ByteArray := prog_6_method_3_code
def y_Row_append : MethodName := ⟨"MemoryLink$Row", "append", "(I)V"⟩
abbrev w_Row_append : List Cond := .code y_Row_append b_Row_append 2 none :: wU
abbrev b_Row_removeFirst : ByteArray := prog_6_method_4_code
def y_Row_removeFirst : MethodName := ⟨"MemoryLink$Row", "removeFirst", "()I"⟩
abbrev w_Row_removeFirst : List Cond := .code y_Row_removeFirst b_Row_removeFirst 2 (some .int) :: wU
abbrev b_Row_wrapped : ByteArray := prog_6_method_5_code
def y_Row_wrapped : MethodName := ⟨"MemoryLink$Row", "wrapped", "(I)I"⟩
abbrev w_Row_wrapped : List Cond := .code y_Row_wrapped b_Row_wrapped 2 (some .int) :: wU
abbrev b_Target_init : ByteArray := prog_7_method_1_code
def y_Target_init : MethodName := ⟨"MemoryLink$Target", "<init>", "()V"⟩
abbrev w_Target_init : List Cond := .code y_Target_init b_Target_init 1 none :: wU
abbrev b_Target_byteAt : ByteArray := prog_7_method_2_code
def y_Target_byteAt : MethodName := ⟨"MemoryLink$Target", "byteAt", "(I)I"⟩
abbrev w_Target_byteAt : List Cond := .code y_Target_byteAt b_Target_byteAt 2 (some .int) :: wU
abbrev b_Target_act : ByteArray := prog_7_method_3_code
def y_Target_act : MethodName := ⟨"MemoryLink$Target", "act", "(LMemoryLink$End;)V"⟩
abbrev w_Target_act : List Cond := .code y_Target_act b_Target_act 3 none :: wU
abbrev b_Target_holdsCommand : ByteArray := prog_7_method_4_code
def y_Target_holdsCommand : MethodName := ⟨"MemoryLink$Target", "holdsCommand", "()Z"⟩
abbrev w_Target_holdsCommand : List Cond := .code y_Target_holdsCommand b_Target_holdsCommand 1 (some .boolean) :: wU
abbrev b_Target_sendReply : ByteArray := prog_7_method_5_code
def y_Target_sendReply : MethodName := ⟨"MemoryLink$Target", "sendReply", "(LMemoryLink$Outlet;)V"⟩
abbrev w_Target_sendReply : List Cond := .code y_Target_sendReply b_Target_sendReply 2 none :: wU
abbrev b_Target_obey : ByteArray := prog_7_method_6_code
def y_Target_obey : MethodName := ⟨"MemoryLink$Target", "obey", "()V"⟩
abbrev w_Target_obey : List Cond := .code y_Target_obey b_Target_obey 2 none :: wU
abbrev b_Target_isWrite : ByteArray := prog_7_method_7_code
def y_Target_isWrite : MethodName := ⟨"MemoryLink$Target", "isWrite", "(I)Z"⟩
abbrev w_Target_isWrite : List Cond := .code y_Target_isWrite b_Target_isWrite 1 (some .boolean) :: wU
abbrev b_Target_isRead : ByteArray := prog_7_method_8_code
def y_Target_isRead : MethodName := ⟨"MemoryLink$Target", "isRead", "(I)Z"⟩
abbrev w_Target_isRead : List Cond := .code y_Target_isRead b_Target_isRead 1 (some .boolean) :: wU
abbrev b_Target_isChange : ByteArray := prog_7_method_9_code
def y_Target_isChange : MethodName := ⟨"MemoryLink$Target", "isChange", "(I)Z"⟩
abbrev w_Target_isChange : List Cond := .code y_Target_isChange b_Target_isChange 1 (some .boolean) :: wU
abbrev b_Target_isKnown : ByteArray := prog_7_method_10_code
def y_Target_isKnown : MethodName := ⟨"MemoryLink$Target", "isKnown", "(I)Z"⟩
abbrev w_Target_isKnown : List Cond := .code y_Target_isKnown b_Target_isKnown 1 (some .boolean) :: wU
abbrev b_Target_judge : ByteArray := prog_7_method_11_code
def y_Target_judge : MethodName := ⟨"MemoryLink$Target", "judge", "()I"⟩
abbrev w_Target_judge : List Cond := .code y_Target_judge b_Target_judge 3 (some .int) :: wU
abbrev b_Target_isChangeLength : ByteArray := prog_7_method_12_code
def y_Target_isChangeLength : MethodName := ⟨"MemoryLink$Target", "isChangeLength", "(I)Z"⟩
abbrev w_Target_isChangeLength : List Cond := .code y_Target_isChangeLength b_Target_isChangeLength 1 (some .boolean) :: wU
abbrev b_Target_lastAddress : ByteArray := prog_7_method_13_code
def y_Target_lastAddress : MethodName := ⟨"MemoryLink$Target", "lastAddress", "(I)I"⟩
abbrev w_Target_lastAddress : List Cond := .code y_Target_lastAddress b_Target_lastAddress 3 (some .int) :: wU
abbrev b_Target_reach : ByteArray := prog_7_method_14_code
def y_Target_reach : MethodName := ⟨"MemoryLink$Target", "reach", "(I)I"⟩
abbrev w_Target_reach : List Cond := .code y_Target_reach b_Target_reach 3 (some .int) :: wU
abbrev b_Target_dataCount : ByteArray := prog_7_method_15_code
def y_Target_dataCount : MethodName := ⟨"MemoryLink$Target", "dataCount", "()I"⟩
abbrev w_Target_dataCount : List Cond := .code y_Target_dataCount b_Target_dataCount 1 (some .int) :: wU
abbrev b_Target_judgeData : ByteArray := prog_7_method_16_code
def y_Target_judgeData : MethodName := ⟨"MemoryLink$Target", "judgeData", "(I)I"⟩
abbrev w_Target_judgeData : List Cond := .code y_Target_judgeData b_Target_judgeData 3 (some .int) :: wU
abbrev b_Target_mayWrite : ByteArray := prog_7_method_17_code
def y_Target_mayWrite : MethodName := ⟨"MemoryLink$Target", "mayWrite", "(I)Z"⟩
abbrev w_Target_mayWrite : List Cond := .code y_Target_mayWrite b_Target_mayWrite 3 (some .boolean) :: wU
abbrev b_Target_addressOf : ByteArray := prog_7_method_18_code
def y_Target_addressOf : MethodName := ⟨"MemoryLink$Target", "addressOf", "(I)I"⟩
abbrev w_Target_addressOf : List Cond := .code y_Target_addressOf b_Target_addressOf 3 (some .int) :: wU
abbrev b_Target_store : ByteArray := prog_7_method_19_code
def y_Target_store : MethodName := ⟨"MemoryLink$Target", "store", "(II)V"⟩
abbrev w_Target_store : List Cond := .code y_Target_store b_Target_store 3 none :: wU
abbrev b_Target_writeData : ByteArray := prog_7_method_20_code
def y_Target_writeData : MethodName := ⟨"MemoryLink$Target", "writeData", "()V"⟩
abbrev w_Target_writeData : List Cond := .code y_Target_writeData b_Target_writeData 3 none :: wU
abbrev b_Target_fillAnswer : ByteArray := prog_7_method_21_code
def y_Target_fillAnswer : MethodName := ⟨"MemoryLink$Target", "fillAnswer", "(I)V"⟩
abbrev w_Target_fillAnswer : List Cond := .code y_Target_fillAnswer b_Target_fillAnswer 4 none :: wU
abbrev b_Target_changeBytes : ByteArray := prog_7_method_22_code
def y_Target_changeBytes : MethodName := ⟨"MemoryLink$Target", "changeBytes", "()V"⟩
abbrev w_Target_changeBytes : List Cond := .code y_Target_changeBytes b_Target_changeBytes 5 none :: wU
abbrev b_Target_composeReply : ByteArray := prog_7_method_23_code
def y_Target_composeReply : MethodName := ⟨"MemoryLink$Target", "composeReply", "(I)V"⟩
abbrev w_Target_composeReply : List Cond := .code y_Target_composeReply b_Target_composeReply 2 none :: wU
abbrev b_Target_composeAnswer : ByteArray := prog_7_method_24_code
def y_Target_composeAnswer : MethodName := ⟨"MemoryLink$Target", "composeAnswer", "()V"⟩
abbrev w_Target_composeAnswer : List Cond := .code y_Target_composeAnswer b_Target_composeAnswer 2 none :: wU
abbrev b_Law_cell : ByteArray := method_2_code
def y_Law_cell : MethodName := ⟨"MemoryLinkLaw", "cell", "([II)I"⟩
abbrev w_Law_cell : List Cond := .code y_Law_cell b_Law_cell 2 (some .int) :: wU
theorem xm {c0 w : Cond} {l : List Cond} (h : w ∈ l) : w ∈ c0 :: l := List.mem_cons_of_mem _ h
theorem xmU {w : Cond} (h : w ∈ tables_1) (hg : goodWord w = true) : w ∈ wU := List.mem_filter.mpr ⟨List.mem_append_right _ h, hg⟩
theorem xmS {q : MethodName × Nat} (h : q ∈ lw_privs) (hg : goodWord (Cond.selects q.1.cls q.1 q.1) = true) : Cond.selects q.1.cls q.1 q.1 ∈ wU := List.mem_filter.mpr ⟨List.mem_append_left _ (List.mem_map.mpr ⟨q, h, rfl⟩), hg⟩
theorem xmL {l : List Cond} (is : List Nat) (h : is.filterMap (fun i => tables_1[i]?) = l) (hg : l.all goodWord = true) : ∀ w ∈ l, w ∈ wU := by
  intro w hw
  have h1 := List.all_eq_true.mp hg w hw
  rw [← h] at hw
  obtain ⟨i, -, hi⟩ := List.mem_filterMap.mp hw
  exact xmU (List.mem_of_getElem? hi) h1
theorem xGood {c0 c1 : Cond} (h : c1 ∈ wU) : GoodIn (c0 :: wU) (c1 :: wU) := by
  intro w hw
  rcases List.mem_cons.mp hw with rfl | hw
  · exact ⟨xm h, good_of_word (List.mem_filter.mp h).2⟩
  · exact ⟨xm hw, good_of_word (List.mem_filter.mp hw).2⟩
section XC
variable {R : Room} {s : State} {args : Array Value} {own : String} {index : Nat} {y : MethodName} {bytes : ByteArray} {maxL mc ms : Nat} {ret : Option FieldType} {rm : Room} {c0 : Cond} {host : String}
theorem xcwV (n : Nat) (hts : ∀ w ∈ c0 :: wU, w.before args s = true) (hc : Cond.code y bytes maxL ret ∈ wU) (hl : Cond.methodLink own index y ∈ wU) (hi : Cond.instanceMethod y ∈ wU) (hs : Cond.selects y.cls y y ∈ wU) (hini : Cond.initialized y.cls ∈ wU)
    (hd : y.cls ≠ "java/lang/invoke/MethodHandle" ∧ y.cls ≠ "java/lang/invoke/VarHandle" ∧ (parseMethodDescriptor y.desc).map (fun d => d.parameters.length) = some n) (hrc : rm.cells = mc) (hrs : rm.slots = ms) (hR : rm.frames + 1 ≤ R.frames ∧ 8 + (maxL + 11) + rm.locals ≤ R.locals) :
    CallW R s args own y.cls index y bytes maxL ret (Cond.code y bytes maxL ret :: wU) rm mc ms n :=
  ⟨callB_of n hts (xGood hc) rfl hrc hrs (hts _ (xm hini)) (hts _ (xm hl)) hd hR, hts _ (xm hi), hts _ (xm hs)⟩
theorem xcwS (n : Nat) (hts : ∀ w ∈ c0 :: wU, w.before args s = true) (hc : Cond.code y bytes maxL ret ∈ wU) (hl : Cond.methodLink own index y ∈ wU) (hi : Cond.static y ∈ wU) (hini : Cond.initialized y.cls ∈ wU)
    (hd : y.cls ≠ "java/lang/invoke/MethodHandle" ∧ y.cls ≠ "java/lang/invoke/VarHandle" ∧ (parseMethodDescriptor y.desc).map (fun d => d.parameters.length) = some n) (hrc : rm.cells = mc) (hrs : rm.slots = ms) (hR : rm.frames + 1 ≤ R.frames ∧ 8 + (maxL + 11) + rm.locals ≤ R.locals) :
    CallB R s args own index y bytes maxL ret (Cond.code y bytes maxL ret :: wU) rm mc ms n ∧ (Cond.static y).before args s = true :=
  ⟨callB_of n hts (xGood hc) rfl hrc hrs (hts _ (xm hini)) (hts _ (xm hl)) hd hR, hts _ (xm hi)⟩
theorem xcwI (n : Nat) (hts : ∀ w ∈ c0 :: wU, w.before args s = true) (hc : Cond.code y bytes maxL none ∈ wU) (hl : Cond.methodLink own index y ∈ wU) (hi : Cond.instanceMethod y ∈ wU) (hini : Cond.initialized y.cls ∈ wU) (hy1 : y.name = "<init>")
    (hd : y.cls ≠ "java/lang/invoke/MethodHandle" ∧ y.cls ≠ "java/lang/invoke/VarHandle" ∧ (parseMethodDescriptor y.desc).map (fun d => d.parameters.length) = some n) (hrc : rm.cells = mc) (hrs : rm.slots = ms) (hR : rm.frames + 1 ≤ R.frames ∧ 8 + (maxL + 11) + rm.locals ≤ R.locals) :
    CallB R s args own index y bytes maxL none (Cond.code y bytes maxL none :: wU) rm mc ms n ∧ y.name = "<init>" ∧ (Cond.instanceMethod y).before args s = true :=
  ⟨callB_of n hts (xGood hc) rfl hrc hrs (hts _ (xm hini)) (hts _ (xm hl)) hd hR, hy1, hts _ (xm hi)⟩
theorem xcnS (n : Nat) (hts : ∀ w ∈ c0 :: wU, w.before args s = true) (hN : xN xNs s) (hc : Cond.code y bytes maxL ret ∈ wU) (hl : Cond.methodLinkNest own index y host ∈ xNs) (hi : Cond.static y ∈ wU) (hini : Cond.initialized y.cls ∈ wU)
    (hd : y.cls ≠ "java/lang/invoke/MethodHandle" ∧ y.cls ≠ "java/lang/invoke/VarHandle" ∧ (parseMethodDescriptor y.desc).map (fun d => d.parameters.length) = some n) (hrc : rm.cells = mc) (hrs : rm.slots = ms) (hR : rm.frames + 1 ≤ R.frames ∧ 8 + (maxL + 11) + rm.locals ≤ R.locals) :
    va_CN R s args own index y host bytes maxL ret (Cond.code y bytes maxL ret :: wU) rm mc ms n ∧ (Cond.static y).before args s = true ∧ True :=
  ⟨va_cnB n hts (xGood hc) rfl hrc hrs (hN.nw hl) (hts _ (xm hini)) hd hR, hts _ (xm hi), trivial⟩
theorem xcnV (n : Nat) (hts : ∀ w ∈ c0 :: wU, w.before args s = true) (hN : xN xNs s) (hc : Cond.code y bytes maxL ret ∈ wU) (hl : Cond.methodLinkNest own index y host ∈ xNs) (hi : Cond.instanceMethod y ∈ wU) (hs : Cond.selects y.cls y y ∈ wU) (hini : Cond.initialized y.cls ∈ wU)
    (hd : y.cls ≠ "java/lang/invoke/MethodHandle" ∧ y.cls ≠ "java/lang/invoke/VarHandle" ∧ (parseMethodDescriptor y.desc).map (fun d => d.parameters.length) = some n) (hrc : rm.cells = mc) (hrs : rm.slots = ms) (hR : rm.frames + 1 ≤ R.frames ∧ 8 + (maxL + 11) + rm.locals ≤ R.locals) :
    va_CN R s args own index y host bytes maxL ret (Cond.code y bytes maxL ret :: wU) rm mc ms n ∧ (Cond.instanceMethod y).before args s = true ∧ (Cond.selects y.cls y y).before args s = true :=
  ⟨va_cnB n hts (xGood hc) rfl hrc hrs (hN.nw hl) (hts _ (xm hini)) hd hR, hts _ (xm hi), hts _ (xm hs)⟩
end XC
theorem ww_0 : (.initialized "MemoryLinkLaw" : Cond) ∈ wU := xmU (List.mem_of_getElem? (i := 0) (by decide +kernel)) rfl
theorem ww_1 : (.initialized "MemoryLink" : Cond) ∈ wU := xmU (List.mem_of_getElem? (i := 1) (by decide +kernel)) rfl
theorem ww_2 : (.initialized "MemoryLink$End" : Cond) ∈ wU := xmU (List.mem_of_getElem? (i := 2) (by decide +kernel)) rfl
theorem ww_3 : (.initialized "MemoryLink$Inlet" : Cond) ∈ wU := xmU (List.mem_of_getElem? (i := 3) (by decide +kernel)) rfl
theorem ww_4 : (.initialized "MemoryLink$Row" : Cond) ∈ wU := xmU (List.mem_of_getElem? (i := 4) (by decide +kernel)) rfl
theorem ww_5 : (.initialized "MemoryLink$Outlet" : Cond) ∈ wU := xmU (List.mem_of_getElem? (i := 5) (by decide +kernel)) rfl
theorem ww_6 : (.initialized "MemoryLink$Target" : Cond) ∈ wU := xmU (List.mem_of_getElem? (i := 6) (by decide +kernel)) rfl
theorem ww_7 : (.initialized "MemoryLink$Packet" : Cond) ∈ wU := xmU (List.mem_of_getElem? (i := 7) (by decide +kernel)) rfl
theorem ww_8 : (.initialized "MemoryLinkModel" : Cond) ∈ wU := xmU (List.mem_of_getElem? (i := 8) (by decide +kernel)) rfl
theorem ww_9 : (.initialized "java/lang/Math" : Cond) ∈ wU := xmU (List.mem_of_getElem? (i := 9) (by decide +kernel)) rfl
theorem ww_10 : (.classLink "MemoryLinkLaw" 7 "MemoryLink" : Cond) ∈ wU := xmU (List.mem_of_getElem? (i := 10) (by decide +kernel)) rfl
theorem ww_11 : (.instantiable "MemoryLink" 5 : Cond) ∈ wU := xmU (List.mem_of_getElem? (i := 11) (by decide +kernel)) rfl
theorem ww_12 : (.methodLink "MemoryLinkLaw" 15 ⟨"MemoryLink", "<init>", "(I)V"⟩ : Cond) ∈ wU := xmU (List.mem_of_getElem? (i := 12) (by decide +kernel)) rfl
theorem ww_13 : (.instanceMethod ⟨"MemoryLink", "<init>", "(I)V"⟩ : Cond) ∈ wU := xmU (List.mem_of_getElem? (i := 13) (by decide +kernel)) rfl
theorem ww_14 : (.code ⟨"MemoryLink", "<init>", "(I)V"⟩ prog_1_method_1_code 2 none : Cond) ∈ wU := xmU (List.mem_of_getElem? (i := 14) (by decide +kernel)) rfl
theorem ww_15 : (.methodLink "MemoryLink" 1 ⟨"java/lang/Object", "<init>", "()V"⟩ : Cond) ∈ wU := xmU (List.mem_of_getElem? (i := 15) (by decide +kernel)) rfl
theorem ww_16 : (.instanceMethod ⟨"java/lang/Object", "<init>", "()V"⟩ : Cond) ∈ wU := xmU (List.mem_of_getElem? (i := 16) (by decide +kernel)) rfl
theorem ww_17 : (.code ⟨"java/lang/Object", "<init>", "()V"⟩ object_method_1_code 1 none : Cond) ∈ wU := xmU (List.mem_of_getElem? (i := 17) (by decide +kernel)) rfl
theorem ww_18 : (.classLink "MemoryLink" 7 "MemoryLink$End" : Cond) ∈ wU := xmU (List.mem_of_getElem? (i := 18) (by decide +kernel)) rfl
theorem ww_19 : (.instantiable "MemoryLink$End" 19 : Cond) ∈ wU := xmU (List.mem_of_getElem? (i := 19) (by decide +kernel)) rfl
theorem ww_20 : (.methodLink "MemoryLink" 9 ⟨"MemoryLink$End", "<init>", "()V"⟩ : Cond) ∈ wU := xmU (List.mem_of_getElem? (i := 20) (by decide +kernel)) rfl
theorem ww_21 : (.instanceMethod ⟨"MemoryLink$End", "<init>", "()V"⟩ : Cond) ∈ wU := xmU (List.mem_of_getElem? (i := 21) (by decide +kernel)) rfl
theorem ww_22 : (.code ⟨"MemoryLink$End", "<init>", "()V"⟩ prog_2_method_1_code 1 none : Cond) ∈ wU := xmU (List.mem_of_getElem? (i := 22) (by decide +kernel)) rfl
theorem ww_23 : (.methodLink "MemoryLink$End" 3 ⟨"java/lang/Object", "<init>", "()V"⟩ : Cond) ∈ wU := xmU (List.mem_of_getElem? (i := 23) (by decide +kernel)) rfl
theorem ww_24 : (.classLink "MemoryLink$End" 9 "MemoryLink$Inlet" : Cond) ∈ wU := xmU (List.mem_of_getElem? (i := 24) (by decide +kernel)) rfl
theorem ww_25 : (.instantiable "MemoryLink$Inlet" 2 : Cond) ∈ wU := xmU (List.mem_of_getElem? (i := 25) (by decide +kernel)) rfl
theorem ww_26 : (.methodLink "MemoryLink$End" 11 ⟨"MemoryLink$Inlet", "<init>", "()V"⟩ : Cond) ∈ wU := xmU (List.mem_of_getElem? (i := 26) (by decide +kernel)) rfl
theorem ww_27 : (.instanceMethod ⟨"MemoryLink$Inlet", "<init>", "()V"⟩ : Cond) ∈ wU := xmU (List.mem_of_getElem? (i := 27) (by decide +kernel)) rfl
theorem ww_28 : (.code ⟨"MemoryLink$Inlet", "<init>", "()V"⟩ prog_3_method_1_code 1 none : Cond) ∈ wU := xmU (List.mem_of_getElem? (i := 28) (by decide +kernel)) rfl
theorem ww_29 : (.methodLink "MemoryLink$Inlet" 3 ⟨"java/lang/Object", "<init>", "()V"⟩ : Cond) ∈ wU := xmU (List.mem_of_getElem? (i := 29) (by decide +kernel)) rfl
theorem ww_30 : (.classLink "MemoryLink$Inlet" 9 "MemoryLink$Row" : Cond) ∈ wU := xmU (List.mem_of_getElem? (i := 30) (by decide +kernel)) rfl
theorem ww_31 : (.instantiable "MemoryLink$Row" 3 : Cond) ∈ wU := xmU (List.mem_of_getElem? (i := 31) (by decide +kernel)) rfl
theorem ww_32 : (.methodLink "MemoryLink$Inlet" 11 ⟨"MemoryLink$Row", "<init>", "(I)V"⟩ : Cond) ∈ wU := xmU (List.mem_of_getElem? (i := 32) (by decide +kernel)) rfl
theorem ww_33 : (.instanceMethod ⟨"MemoryLink$Row", "<init>", "(I)V"⟩ : Cond) ∈ wU := xmU (List.mem_of_getElem? (i := 33) (by decide +kernel)) rfl
theorem ww_34 : (.code ⟨"MemoryLink$Row", "<init>", "(I)V"⟩ prog_6_method_1_code 2 none : Cond) ∈ wU := xmU (List.mem_of_getElem? (i := 34) (by decide +kernel)) rfl
theorem ww_35 : (.methodLink "MemoryLink$Row" 3 ⟨"java/lang/Object", "<init>", "()V"⟩ : Cond) ∈ wU := xmU (List.mem_of_getElem? (i := 35) (by decide +kernel)) rfl
theorem ww_36 : (.fieldLink "MemoryLink$Row" 9 "MemoryLink$Row" "places" "[I" : Cond) ∈ wU := xmU (List.mem_of_getElem? (i := 36) (by decide +kernel)) rfl
theorem ww_37 : (.fieldLink "MemoryLink$Row" 19 "MemoryLink$Row" "first" "I" : Cond) ∈ wU := xmU (List.mem_of_getElem? (i := 37) (by decide +kernel)) rfl
theorem ww_40 : (.fieldLink "MemoryLink$Row" 15 "MemoryLink$Row" "size" "I" : Cond) ∈ wU := xmU (List.mem_of_getElem? (i := 40) (by decide +kernel)) rfl
theorem ww_41 : (.laysFinal "MemoryLink$Row" "MemoryLink$Row" "places" "[I" : Cond) ∈ wU := xmU (List.mem_of_getElem? (i := 41) (by decide +kernel)) rfl
theorem ww_42 : (.soleField "MemoryLink$Row" "places" : Cond) ∈ wU := xmU (List.mem_of_getElem? (i := 42) (by decide +kernel)) rfl
theorem ww_43 : (.lays "MemoryLink$Row" "MemoryLink$Row" "first" "I" : Cond) ∈ wU := xmU (List.mem_of_getElem? (i := 43) (by decide +kernel)) rfl
theorem ww_44 : (.soleField "MemoryLink$Row" "first" : Cond) ∈ wU := xmU (List.mem_of_getElem? (i := 44) (by decide +kernel)) rfl
theorem ww_45 : (.lays "MemoryLink$Row" "MemoryLink$Row" "size" "I" : Cond) ∈ wU := xmU (List.mem_of_getElem? (i := 45) (by decide +kernel)) rfl
theorem ww_46 : (.soleField "MemoryLink$Row" "size" : Cond) ∈ wU := xmU (List.mem_of_getElem? (i := 46) (by decide +kernel)) rfl
theorem ww_47 : (.superclass "MemoryLink$Row" "java/lang/Object" : Cond) ∈ wU := xmU (List.mem_of_getElem? (i := 47) (by decide +kernel)) rfl
theorem ww_48 : (.arrayClass .int : Cond) ∈ wU := xmU (List.mem_of_getElem? (i := 48) (by decide +kernel)) rfl
theorem ww_49 : (.fieldLink "MemoryLink$Inlet" 14 "MemoryLink$Inlet" "row" "LMemoryLink$Row;" : Cond) ∈ wU := xmU (List.mem_of_getElem? (i := 49) (by decide +kernel)) rfl
theorem ww_50 : (.fieldLink "MemoryLink$Inlet" 31 "MemoryLink$Inlet" "open" "Z" : Cond) ∈ wU := xmU (List.mem_of_getElem? (i := 50) (by decide +kernel)) rfl
theorem ww_51 : (.laysFinal "MemoryLink$Inlet" "MemoryLink$Inlet" "row" "LMemoryLink$Row;" : Cond) ∈ wU := xmU (List.mem_of_getElem? (i := 51) (by decide +kernel)) rfl
theorem ww_52 : (.soleField "MemoryLink$Inlet" "row" : Cond) ∈ wU := xmU (List.mem_of_getElem? (i := 52) (by decide +kernel)) rfl
theorem ww_53 : (.lays "MemoryLink$Inlet" "MemoryLink$Inlet" "open" "Z" : Cond) ∈ wU := xmU (List.mem_of_getElem? (i := 53) (by decide +kernel)) rfl
theorem ww_54 : (.soleField "MemoryLink$Inlet" "open" : Cond) ∈ wU := xmU (List.mem_of_getElem? (i := 54) (by decide +kernel)) rfl
theorem ww_55 : (.superclass "MemoryLink$Inlet" "java/lang/Object" : Cond) ∈ wU := xmU (List.mem_of_getElem? (i := 55) (by decide +kernel)) rfl
theorem ww_56 : (.classLink "MemoryLink$End" 18 "MemoryLink$Outlet" : Cond) ∈ wU := xmU (List.mem_of_getElem? (i := 56) (by decide +kernel)) rfl
theorem ww_57 : (.instantiable "MemoryLink$Outlet" 3 : Cond) ∈ wU := xmU (List.mem_of_getElem? (i := 57) (by decide +kernel)) rfl
theorem ww_58 : (.methodLink "MemoryLink$End" 20 ⟨"MemoryLink$Outlet", "<init>", "()V"⟩ : Cond) ∈ wU := xmU (List.mem_of_getElem? (i := 58) (by decide +kernel)) rfl
theorem ww_59 : (.instanceMethod ⟨"MemoryLink$Outlet", "<init>", "()V"⟩ : Cond) ∈ wU := xmU (List.mem_of_getElem? (i := 59) (by decide +kernel)) rfl
theorem ww_60 : (.code ⟨"MemoryLink$Outlet", "<init>", "()V"⟩ prog_4_method_1_code 1 none : Cond) ∈ wU := xmU (List.mem_of_getElem? (i := 60) (by decide +kernel)) rfl
theorem ww_61 : (.methodLink "MemoryLink$Outlet" 3 ⟨"java/lang/Object", "<init>", "()V"⟩ : Cond) ∈ wU := xmU (List.mem_of_getElem? (i := 61) (by decide +kernel)) rfl
theorem ww_62 : (.classLink "MemoryLink$Outlet" 9 "MemoryLink$Row" : Cond) ∈ wU := xmU (List.mem_of_getElem? (i := 62) (by decide +kernel)) rfl
theorem ww_63 : (.methodLink "MemoryLink$Outlet" 11 ⟨"MemoryLink$Row", "<init>", "(I)V"⟩ : Cond) ∈ wU := xmU (List.mem_of_getElem? (i := 63) (by decide +kernel)) rfl
theorem ww_64 : (.fieldLink "MemoryLink$Outlet" 14 "MemoryLink$Outlet" "row" "LMemoryLink$Row;" : Cond) ∈ wU := xmU (List.mem_of_getElem? (i := 64) (by decide +kernel)) rfl
theorem ww_65 : (.fieldLink "MemoryLink$Outlet" 54 "MemoryLink$Outlet" "open" "Z" : Cond) ∈ wU := xmU (List.mem_of_getElem? (i := 65) (by decide +kernel)) rfl
theorem ww_66 : (.fieldLink "MemoryLink$Outlet" 28 "MemoryLink$Outlet" "throwing" "Z" : Cond) ∈ wU := xmU (List.mem_of_getElem? (i := 66) (by decide +kernel)) rfl
theorem ww_68 : (.laysFinal "MemoryLink$Outlet" "MemoryLink$Outlet" "row" "LMemoryLink$Row;" : Cond) ∈ wU := xmU (List.mem_of_getElem? (i := 68) (by decide +kernel)) rfl
theorem ww_69 : (.soleField "MemoryLink$Outlet" "row" : Cond) ∈ wU := xmU (List.mem_of_getElem? (i := 69) (by decide +kernel)) rfl
theorem ww_70 : (.lays "MemoryLink$Outlet" "MemoryLink$Outlet" "open" "Z" : Cond) ∈ wU := xmU (List.mem_of_getElem? (i := 70) (by decide +kernel)) rfl
theorem ww_71 : (.soleField "MemoryLink$Outlet" "open" : Cond) ∈ wU := xmU (List.mem_of_getElem? (i := 71) (by decide +kernel)) rfl
theorem ww_72 : (.lays "MemoryLink$Outlet" "MemoryLink$Outlet" "throwing" "Z" : Cond) ∈ wU := xmU (List.mem_of_getElem? (i := 72) (by decide +kernel)) rfl
theorem ww_73 : (.soleField "MemoryLink$Outlet" "throwing" : Cond) ∈ wU := xmU (List.mem_of_getElem? (i := 73) (by decide +kernel)) rfl
theorem ww_74 : (.superclass "MemoryLink$Outlet" "java/lang/Object" : Cond) ∈ wU := xmU (List.mem_of_getElem? (i := 74) (by decide +kernel)) rfl
theorem ww_75 : (.fieldLink "MemoryLink$End" 12 "MemoryLink$End" "in" "LMemoryLink$Inlet;" : Cond) ∈ wU := xmU (List.mem_of_getElem? (i := 75) (by decide +kernel)) rfl
theorem ww_78 : (.fieldLink "MemoryLink$End" 21 "MemoryLink$End" "out" "LMemoryLink$Outlet;" : Cond) ∈ wU := xmU (List.mem_of_getElem? (i := 78) (by decide +kernel)) rfl
theorem ww_81 : (.fieldLink "MemoryLink$End" 35 "MemoryLink$End" "enabled" "Z" : Cond) ∈ wU := xmU (List.mem_of_getElem? (i := 81) (by decide +kernel)) rfl
theorem ww_82 : (.fieldLink "MemoryLink$End" 39 "MemoryLink$End" "auto" "Z" : Cond) ∈ wU := xmU (List.mem_of_getElem? (i := 82) (by decide +kernel)) rfl
theorem ww_83 : (.fieldLink "MemoryLink$End" 54 "MemoryLink$End" "heard" "Z" : Cond) ∈ wU := xmU (List.mem_of_getElem? (i := 83) (by decide +kernel)) rfl
theorem ww_84 : (.fieldLink "MemoryLink$End" 42 "MemoryLink$End" "fault" "Z" : Cond) ∈ wU := xmU (List.mem_of_getElem? (i := 84) (by decide +kernel)) rfl
theorem ww_85 : (.fieldLink "MemoryLink$End" 45 "MemoryLink$End" "runBegan" "Z" : Cond) ∈ wU := xmU (List.mem_of_getElem? (i := 85) (by decide +kernel)) rfl
theorem ww_86 : (.fieldLink "MemoryLink$End" 25 "MemoryLink$End" "state" "I" : Cond) ∈ wU := xmU (List.mem_of_getElem? (i := 86) (by decide +kernel)) rfl
theorem ww_88 : (.fieldLink "MemoryLink$End" 88 "MemoryLink$End" "clock" "I" : Cond) ∈ wU := xmU (List.mem_of_getElem? (i := 88) (by decide +kernel)) rfl
theorem ww_89 : (.fieldLink "MemoryLink$End" 51 "MemoryLink$End" "silence" "I" : Cond) ∈ wU := xmU (List.mem_of_getElem? (i := 89) (by decide +kernel)) rfl
theorem ww_90 : (.fieldLink "MemoryLink$End" 67 "MemoryLink$End" "loan" "I" : Cond) ∈ wU := xmU (List.mem_of_getElem? (i := 90) (by decide +kernel)) rfl
theorem ww_91 : (.fieldLink "MemoryLink$End" 79 "MemoryLink$End" "owed" "I" : Cond) ∈ wU := xmU (List.mem_of_getElem? (i := 91) (by decide +kernel)) rfl
theorem ww_92 : (.fieldLink "MemoryLink$End" 102 "MemoryLink$End" "falls" "I" : Cond) ∈ wU := xmU (List.mem_of_getElem? (i := 92) (by decide +kernel)) rfl
theorem ww_93 : (.fieldLink "MemoryLink$End" 73 "MemoryLink$End" "time" "I" : Cond) ∈ wU := xmU (List.mem_of_getElem? (i := 93) (by decide +kernel)) rfl
theorem ww_94 : (.fieldLink "MemoryLink$End" 76 "MemoryLink$End" "goodTimes" "I" : Cond) ∈ wU := xmU (List.mem_of_getElem? (i := 94) (by decide +kernel)) rfl
theorem ww_95 : (.fieldLink "MemoryLink$End" 29 "MemoryLink$End" "askedTime" "I" : Cond) ∈ wU := xmU (List.mem_of_getElem? (i := 95) (by decide +kernel)) rfl
theorem ww_98 : (.fieldLink "MemoryLink$End" 109 "MemoryLink$End" "spoilNext" "Z" : Cond) ∈ wU := xmU (List.mem_of_getElem? (i := 98) (by decide +kernel)) rfl
theorem ww_99 : (.fieldLink "MemoryLink$End" 32 "MemoryLink$End" "sent" "I" : Cond) ∈ wU := xmU (List.mem_of_getElem? (i := 99) (by decide +kernel)) rfl
theorem ww_101 : (.fieldLink "MemoryLink$End" 112 "MemoryLink$End" "sentSpoiled" "Z" : Cond) ∈ wU := xmU (List.mem_of_getElem? (i := 101) (by decide +kernel)) rfl
theorem ww_103 : (.laysFinal "MemoryLink$End" "MemoryLink$End" "in" "LMemoryLink$Inlet;" : Cond) ∈ wU := xmU (List.mem_of_getElem? (i := 103) (by decide +kernel)) rfl
theorem ww_104 : (.soleField "MemoryLink$End" "in" : Cond) ∈ wU := xmU (List.mem_of_getElem? (i := 104) (by decide +kernel)) rfl
theorem ww_105 : (.laysFinal "MemoryLink$End" "MemoryLink$End" "out" "LMemoryLink$Outlet;" : Cond) ∈ wU := xmU (List.mem_of_getElem? (i := 105) (by decide +kernel)) rfl
theorem ww_106 : (.soleField "MemoryLink$End" "out" : Cond) ∈ wU := xmU (List.mem_of_getElem? (i := 106) (by decide +kernel)) rfl
theorem ww_107 : (.lays "MemoryLink$End" "MemoryLink$End" "enabled" "Z" : Cond) ∈ wU := xmU (List.mem_of_getElem? (i := 107) (by decide +kernel)) rfl
theorem ww_108 : (.soleField "MemoryLink$End" "enabled" : Cond) ∈ wU := xmU (List.mem_of_getElem? (i := 108) (by decide +kernel)) rfl
theorem ww_109 : (.lays "MemoryLink$End" "MemoryLink$End" "auto" "Z" : Cond) ∈ wU := xmU (List.mem_of_getElem? (i := 109) (by decide +kernel)) rfl
theorem ww_110 : (.soleField "MemoryLink$End" "auto" : Cond) ∈ wU := xmU (List.mem_of_getElem? (i := 110) (by decide +kernel)) rfl
theorem ww_111 : (.lays "MemoryLink$End" "MemoryLink$End" "heard" "Z" : Cond) ∈ wU := xmU (List.mem_of_getElem? (i := 111) (by decide +kernel)) rfl
theorem ww_112 : (.soleField "MemoryLink$End" "heard" : Cond) ∈ wU := xmU (List.mem_of_getElem? (i := 112) (by decide +kernel)) rfl
theorem ww_113 : (.lays "MemoryLink$End" "MemoryLink$End" "fault" "Z" : Cond) ∈ wU := xmU (List.mem_of_getElem? (i := 113) (by decide +kernel)) rfl
theorem ww_114 : (.soleField "MemoryLink$End" "fault" : Cond) ∈ wU := xmU (List.mem_of_getElem? (i := 114) (by decide +kernel)) rfl
theorem ww_115 : (.lays "MemoryLink$End" "MemoryLink$End" "runBegan" "Z" : Cond) ∈ wU := xmU (List.mem_of_getElem? (i := 115) (by decide +kernel)) rfl
theorem ww_116 : (.soleField "MemoryLink$End" "runBegan" : Cond) ∈ wU := xmU (List.mem_of_getElem? (i := 116) (by decide +kernel)) rfl
theorem ww_117 : (.lays "MemoryLink$End" "MemoryLink$End" "state" "I" : Cond) ∈ wU := xmU (List.mem_of_getElem? (i := 117) (by decide +kernel)) rfl
theorem ww_118 : (.soleField "MemoryLink$End" "state" : Cond) ∈ wU := xmU (List.mem_of_getElem? (i := 118) (by decide +kernel)) rfl
theorem ww_119 : (.lays "MemoryLink$End" "MemoryLink$End" "clock" "I" : Cond) ∈ wU := xmU (List.mem_of_getElem? (i := 119) (by decide +kernel)) rfl
theorem ww_120 : (.soleField "MemoryLink$End" "clock" : Cond) ∈ wU := xmU (List.mem_of_getElem? (i := 120) (by decide +kernel)) rfl
theorem ww_121 : (.lays "MemoryLink$End" "MemoryLink$End" "silence" "I" : Cond) ∈ wU := xmU (List.mem_of_getElem? (i := 121) (by decide +kernel)) rfl
theorem ww_122 : (.soleField "MemoryLink$End" "silence" : Cond) ∈ wU := xmU (List.mem_of_getElem? (i := 122) (by decide +kernel)) rfl
theorem ww_123 : (.lays "MemoryLink$End" "MemoryLink$End" "loan" "I" : Cond) ∈ wU := xmU (List.mem_of_getElem? (i := 123) (by decide +kernel)) rfl
theorem ww_124 : (.soleField "MemoryLink$End" "loan" : Cond) ∈ wU := xmU (List.mem_of_getElem? (i := 124) (by decide +kernel)) rfl
theorem ww_125 : (.lays "MemoryLink$End" "MemoryLink$End" "owed" "I" : Cond) ∈ wU := xmU (List.mem_of_getElem? (i := 125) (by decide +kernel)) rfl
theorem ww_126 : (.soleField "MemoryLink$End" "owed" : Cond) ∈ wU := xmU (List.mem_of_getElem? (i := 126) (by decide +kernel)) rfl
theorem ww_127 : (.lays "MemoryLink$End" "MemoryLink$End" "falls" "I" : Cond) ∈ wU := xmU (List.mem_of_getElem? (i := 127) (by decide +kernel)) rfl
theorem ww_128 : (.soleField "MemoryLink$End" "falls" : Cond) ∈ wU := xmU (List.mem_of_getElem? (i := 128) (by decide +kernel)) rfl
theorem ww_129 : (.lays "MemoryLink$End" "MemoryLink$End" "time" "I" : Cond) ∈ wU := xmU (List.mem_of_getElem? (i := 129) (by decide +kernel)) rfl
theorem ww_130 : (.soleField "MemoryLink$End" "time" : Cond) ∈ wU := xmU (List.mem_of_getElem? (i := 130) (by decide +kernel)) rfl
theorem ww_131 : (.lays "MemoryLink$End" "MemoryLink$End" "goodTimes" "I" : Cond) ∈ wU := xmU (List.mem_of_getElem? (i := 131) (by decide +kernel)) rfl
theorem ww_132 : (.soleField "MemoryLink$End" "goodTimes" : Cond) ∈ wU := xmU (List.mem_of_getElem? (i := 132) (by decide +kernel)) rfl
theorem ww_133 : (.lays "MemoryLink$End" "MemoryLink$End" "askedTime" "I" : Cond) ∈ wU := xmU (List.mem_of_getElem? (i := 133) (by decide +kernel)) rfl
theorem ww_134 : (.soleField "MemoryLink$End" "askedTime" : Cond) ∈ wU := xmU (List.mem_of_getElem? (i := 134) (by decide +kernel)) rfl
theorem ww_135 : (.lays "MemoryLink$End" "MemoryLink$End" "spoilNext" "Z" : Cond) ∈ wU := xmU (List.mem_of_getElem? (i := 135) (by decide +kernel)) rfl
theorem ww_136 : (.soleField "MemoryLink$End" "spoilNext" : Cond) ∈ wU := xmU (List.mem_of_getElem? (i := 136) (by decide +kernel)) rfl
theorem ww_137 : (.lays "MemoryLink$End" "MemoryLink$End" "sent" "I" : Cond) ∈ wU := xmU (List.mem_of_getElem? (i := 137) (by decide +kernel)) rfl
theorem ww_138 : (.soleField "MemoryLink$End" "sent" : Cond) ∈ wU := xmU (List.mem_of_getElem? (i := 138) (by decide +kernel)) rfl
theorem ww_139 : (.lays "MemoryLink$End" "MemoryLink$End" "sentSpoiled" "Z" : Cond) ∈ wU := xmU (List.mem_of_getElem? (i := 139) (by decide +kernel)) rfl
theorem ww_140 : (.soleField "MemoryLink$End" "sentSpoiled" : Cond) ∈ wU := xmU (List.mem_of_getElem? (i := 140) (by decide +kernel)) rfl
theorem ww_141 : (.superclass "MemoryLink$End" "java/lang/Object" : Cond) ∈ wU := xmU (List.mem_of_getElem? (i := 141) (by decide +kernel)) rfl
theorem ww_142 : (.classLink "MemoryLink" 23 "MemoryLink$Target" : Cond) ∈ wU := xmU (List.mem_of_getElem? (i := 142) (by decide +kernel)) rfl
theorem ww_143 : (.instantiable "MemoryLink$Target" 7 : Cond) ∈ wU := xmU (List.mem_of_getElem? (i := 143) (by decide +kernel)) rfl
theorem ww_144 : (.methodLink "MemoryLink" 25 ⟨"MemoryLink$Target", "<init>", "()V"⟩ : Cond) ∈ wU := xmU (List.mem_of_getElem? (i := 144) (by decide +kernel)) rfl
theorem ww_145 : (.instanceMethod ⟨"MemoryLink$Target", "<init>", "()V"⟩ : Cond) ∈ wU := xmU (List.mem_of_getElem? (i := 145) (by decide +kernel)) rfl
theorem ww_146 : (.code ⟨"MemoryLink$Target", "<init>", "()V"⟩ prog_7_method_1_code 1 none : Cond) ∈ wU := xmU (List.mem_of_getElem? (i := 146) (by decide +kernel)) rfl
theorem ww_147 : (.methodLink "MemoryLink$Target" 3 ⟨"java/lang/Object", "<init>", "()V"⟩ : Cond) ∈ wU := xmU (List.mem_of_getElem? (i := 147) (by decide +kernel)) rfl
theorem ww_148 : (.classLink "MemoryLink$Target" 15 "MemoryLink$Packet" : Cond) ∈ wU := xmU (List.mem_of_getElem? (i := 148) (by decide +kernel)) rfl
theorem ww_149 : (.instantiable "MemoryLink$Packet" 2 : Cond) ∈ wU := xmU (List.mem_of_getElem? (i := 149) (by decide +kernel)) rfl
theorem ww_150 : (.methodLink "MemoryLink$Target" 17 ⟨"MemoryLink$Packet", "<init>", "(I)V"⟩ : Cond) ∈ wU := xmU (List.mem_of_getElem? (i := 150) (by decide +kernel)) rfl
theorem ww_151 : (.instanceMethod ⟨"MemoryLink$Packet", "<init>", "(I)V"⟩ : Cond) ∈ wU := xmU (List.mem_of_getElem? (i := 151) (by decide +kernel)) rfl
theorem ww_152 : (.code ⟨"MemoryLink$Packet", "<init>", "(I)V"⟩ prog_5_method_1_code 2 none : Cond) ∈ wU := xmU (List.mem_of_getElem? (i := 152) (by decide +kernel)) rfl
theorem ww_153 : (.methodLink "MemoryLink$Packet" 1 ⟨"java/lang/Object", "<init>", "()V"⟩ : Cond) ∈ wU := xmU (List.mem_of_getElem? (i := 153) (by decide +kernel)) rfl
theorem ww_154 : (.fieldLink "MemoryLink$Packet" 7 "MemoryLink$Packet" "places" "[I" : Cond) ∈ wU := xmU (List.mem_of_getElem? (i := 154) (by decide +kernel)) rfl
theorem ww_155 : (.fieldLink "MemoryLink$Packet" 13 "MemoryLink$Packet" "count" "I" : Cond) ∈ wU := xmU (List.mem_of_getElem? (i := 155) (by decide +kernel)) rfl
theorem ww_159 : (.laysFinal "MemoryLink$Packet" "MemoryLink$Packet" "places" "[I" : Cond) ∈ wU := xmU (List.mem_of_getElem? (i := 159) (by decide +kernel)) rfl
theorem ww_160 : (.soleField "MemoryLink$Packet" "places" : Cond) ∈ wU := xmU (List.mem_of_getElem? (i := 160) (by decide +kernel)) rfl
theorem ww_161 : (.lays "MemoryLink$Packet" "MemoryLink$Packet" "count" "I" : Cond) ∈ wU := xmU (List.mem_of_getElem? (i := 161) (by decide +kernel)) rfl
theorem ww_162 : (.soleField "MemoryLink$Packet" "count" : Cond) ∈ wU := xmU (List.mem_of_getElem? (i := 162) (by decide +kernel)) rfl
theorem ww_163 : (.superclass "MemoryLink$Packet" "java/lang/Object" : Cond) ∈ wU := xmU (List.mem_of_getElem? (i := 163) (by decide +kernel)) rfl
theorem ww_164 : (.fieldLink "MemoryLink$Target" 9 "MemoryLink$Target" "bytes" "[I" : Cond) ∈ wU := xmU (List.mem_of_getElem? (i := 164) (by decide +kernel)) rfl
theorem ww_165 : (.fieldLink "MemoryLink$Target" 20 "MemoryLink$Target" "packet" "LMemoryLink$Packet;" : Cond) ∈ wU := xmU (List.mem_of_getElem? (i := 165) (by decide +kernel)) rfl
theorem ww_166 : (.fieldLink "MemoryLink$Target" 24 "MemoryLink$Target" "answer" "LMemoryLink$Packet;" : Cond) ∈ wU := xmU (List.mem_of_getElem? (i := 166) (by decide +kernel)) rfl
theorem ww_167 : (.fieldLink "MemoryLink$Target" 27 "MemoryLink$Target" "reply" "LMemoryLink$Packet;" : Cond) ∈ wU := xmU (List.mem_of_getElem? (i := 167) (by decide +kernel)) rfl
theorem ww_168 : (.fieldLink "MemoryLink$Target" 34 "MemoryLink$Target" "replyWaits" "Z" : Cond) ∈ wU := xmU (List.mem_of_getElem? (i := 168) (by decide +kernel)) rfl
theorem ww_169 : (.fieldLink "MemoryLink$Target" 98 "MemoryLink$Target" "commandCount" "I" : Cond) ∈ wU := xmU (List.mem_of_getElem? (i := 169) (by decide +kernel)) rfl
theorem ww_171 : (.fieldLink "MemoryLink$Target" 30 "MemoryLink$Target" "latestStatus" "I" : Cond) ∈ wU := xmU (List.mem_of_getElem? (i := 171) (by decide +kernel)) rfl
theorem ww_173 : (.laysFinal "MemoryLink$Target" "MemoryLink$Target" "bytes" "[I" : Cond) ∈ wU := xmU (List.mem_of_getElem? (i := 173) (by decide +kernel)) rfl
theorem ww_174 : (.soleField "MemoryLink$Target" "bytes" : Cond) ∈ wU := xmU (List.mem_of_getElem? (i := 174) (by decide +kernel)) rfl
theorem ww_175 : (.laysFinal "MemoryLink$Target" "MemoryLink$Target" "packet" "LMemoryLink$Packet;" : Cond) ∈ wU := xmU (List.mem_of_getElem? (i := 175) (by decide +kernel)) rfl
theorem ww_176 : (.soleField "MemoryLink$Target" "packet" : Cond) ∈ wU := xmU (List.mem_of_getElem? (i := 176) (by decide +kernel)) rfl
theorem ww_177 : (.laysFinal "MemoryLink$Target" "MemoryLink$Target" "answer" "LMemoryLink$Packet;" : Cond) ∈ wU := xmU (List.mem_of_getElem? (i := 177) (by decide +kernel)) rfl
theorem ww_178 : (.soleField "MemoryLink$Target" "answer" : Cond) ∈ wU := xmU (List.mem_of_getElem? (i := 178) (by decide +kernel)) rfl
theorem ww_179 : (.laysFinal "MemoryLink$Target" "MemoryLink$Target" "reply" "LMemoryLink$Packet;" : Cond) ∈ wU := xmU (List.mem_of_getElem? (i := 179) (by decide +kernel)) rfl
theorem ww_180 : (.soleField "MemoryLink$Target" "reply" : Cond) ∈ wU := xmU (List.mem_of_getElem? (i := 180) (by decide +kernel)) rfl
theorem ww_181 : (.lays "MemoryLink$Target" "MemoryLink$Target" "replyWaits" "Z" : Cond) ∈ wU := xmU (List.mem_of_getElem? (i := 181) (by decide +kernel)) rfl
theorem ww_182 : (.soleField "MemoryLink$Target" "replyWaits" : Cond) ∈ wU := xmU (List.mem_of_getElem? (i := 182) (by decide +kernel)) rfl
theorem ww_183 : (.lays "MemoryLink$Target" "MemoryLink$Target" "commandCount" "I" : Cond) ∈ wU := xmU (List.mem_of_getElem? (i := 183) (by decide +kernel)) rfl
theorem ww_184 : (.soleField "MemoryLink$Target" "commandCount" : Cond) ∈ wU := xmU (List.mem_of_getElem? (i := 184) (by decide +kernel)) rfl
theorem ww_185 : (.lays "MemoryLink$Target" "MemoryLink$Target" "latestStatus" "I" : Cond) ∈ wU := xmU (List.mem_of_getElem? (i := 185) (by decide +kernel)) rfl
theorem ww_186 : (.soleField "MemoryLink$Target" "latestStatus" : Cond) ∈ wU := xmU (List.mem_of_getElem? (i := 186) (by decide +kernel)) rfl
theorem ww_187 : (.superclass "MemoryLink$Target" "java/lang/Object" : Cond) ∈ wU := xmU (List.mem_of_getElem? (i := 187) (by decide +kernel)) rfl
theorem ww_188 : (.classLink "MemoryLink" 30 "MemoryLink$Packet" : Cond) ∈ wU := xmU (List.mem_of_getElem? (i := 188) (by decide +kernel)) rfl
theorem ww_189 : (.methodLink "MemoryLink" 32 ⟨"MemoryLink$Packet", "<init>", "(I)V"⟩ : Cond) ∈ wU := xmU (List.mem_of_getElem? (i := 189) (by decide +kernel)) rfl
theorem ww_190 : (.fieldLink "MemoryLink" 10 "MemoryLink" "near" "LMemoryLink$End;" : Cond) ∈ wU := xmU (List.mem_of_getElem? (i := 190) (by decide +kernel)) rfl
theorem ww_191 : (.fieldLink "MemoryLink" 16 "MemoryLink" "far" "LMemoryLink$End;" : Cond) ∈ wU := xmU (List.mem_of_getElem? (i := 191) (by decide +kernel)) rfl
theorem ww_192 : (.fieldLink "MemoryLink" 19 "MemoryLink" "targetOn" "Z" : Cond) ∈ wU := xmU (List.mem_of_getElem? (i := 192) (by decide +kernel)) rfl
theorem ww_193 : (.fieldLink "MemoryLink" 26 "MemoryLink" "memoryTarget" "LMemoryLink$Target;" : Cond) ∈ wU := xmU (List.mem_of_getElem? (i := 193) (by decide +kernel)) rfl
theorem ww_194 : (.fieldLink "MemoryLink" 35 "MemoryLink" "draft" "LMemoryLink$Packet;" : Cond) ∈ wU := xmU (List.mem_of_getElem? (i := 194) (by decide +kernel)) rfl
theorem ww_195 : (.laysFinal "MemoryLink" "MemoryLink" "near" "LMemoryLink$End;" : Cond) ∈ wU := xmU (List.mem_of_getElem? (i := 195) (by decide +kernel)) rfl
theorem ww_196 : (.soleField "MemoryLink" "near" : Cond) ∈ wU := xmU (List.mem_of_getElem? (i := 196) (by decide +kernel)) rfl
theorem ww_197 : (.laysFinal "MemoryLink" "MemoryLink" "far" "LMemoryLink$End;" : Cond) ∈ wU := xmU (List.mem_of_getElem? (i := 197) (by decide +kernel)) rfl
theorem ww_198 : (.soleField "MemoryLink" "far" : Cond) ∈ wU := xmU (List.mem_of_getElem? (i := 198) (by decide +kernel)) rfl
theorem ww_199 : (.laysFinal "MemoryLink" "MemoryLink" "targetOn" "Z" : Cond) ∈ wU := xmU (List.mem_of_getElem? (i := 199) (by decide +kernel)) rfl
theorem ww_200 : (.soleField "MemoryLink" "targetOn" : Cond) ∈ wU := xmU (List.mem_of_getElem? (i := 200) (by decide +kernel)) rfl
theorem ww_201 : (.laysFinal "MemoryLink" "MemoryLink" "memoryTarget" "LMemoryLink$Target;" : Cond) ∈ wU := xmU (List.mem_of_getElem? (i := 201) (by decide +kernel)) rfl
theorem ww_202 : (.soleField "MemoryLink" "memoryTarget" : Cond) ∈ wU := xmU (List.mem_of_getElem? (i := 202) (by decide +kernel)) rfl
theorem ww_203 : (.laysFinal "MemoryLink" "MemoryLink" "draft" "LMemoryLink$Packet;" : Cond) ∈ wU := xmU (List.mem_of_getElem? (i := 203) (by decide +kernel)) rfl
theorem ww_204 : (.soleField "MemoryLink" "draft" : Cond) ∈ wU := xmU (List.mem_of_getElem? (i := 204) (by decide +kernel)) rfl
theorem ww_205 : (.superclass "MemoryLink" "java/lang/Object" : Cond) ∈ wU := xmU (List.mem_of_getElem? (i := 205) (by decide +kernel)) rfl
theorem ww_206 : (.methodLink "MemoryLinkLaw" 21 ⟨"MemoryLink", "control", "(IZZ)Z"⟩ : Cond) ∈ wU := xmU (List.mem_of_getElem? (i := 206) (by decide +kernel)) rfl
theorem ww_207 : (.instanceMethod ⟨"MemoryLink", "control", "(IZZ)Z"⟩ : Cond) ∈ wU := xmU (List.mem_of_getElem? (i := 207) (by decide +kernel)) rfl
theorem ww_208 : (.selects "MemoryLink" ⟨"MemoryLink", "control", "(IZZ)Z"⟩ ⟨"MemoryLink", "control", "(IZZ)Z"⟩ : Cond) ∈ wU := xmU (List.mem_of_getElem? (i := 208) (by decide +kernel)) rfl
theorem ww_209 : (.code ⟨"MemoryLink", "control", "(IZZ)Z"⟩ prog_1_method_2_code 4 (some .boolean) : Cond) ∈ wU := xmU (List.mem_of_getElem? (i := 209) (by decide +kernel)) rfl
theorem ww_210 : (.methodLink "MemoryLink" 39 ⟨"MemoryLink", "isEnd", "(I)Z"⟩ : Cond) ∈ wU := xmU (List.mem_of_getElem? (i := 210) (by decide +kernel)) rfl
theorem ww_211 : (.static ⟨"MemoryLink", "isEnd", "(I)Z"⟩ : Cond) ∈ wU := xmU (List.mem_of_getElem? (i := 211) (by decide +kernel)) rfl
theorem ww_212 : (.code ⟨"MemoryLink", "isEnd", "(I)Z"⟩ prog_1_method_13_code 1 (some .boolean) : Cond) ∈ wU := xmU (List.mem_of_getElem? (i := 212) (by decide +kernel)) rfl
theorem ww_213 : (.methodLink "MemoryLink" 43 ⟨"MemoryLink", "endOf", "(I)LMemoryLink$End;"⟩ : Cond) ∈ wU := xmU (List.mem_of_getElem? (i := 213) (by decide +kernel)) rfl
theorem ww_215 : (.instanceMethod ⟨"MemoryLink", "endOf", "(I)LMemoryLink$End;"⟩ : Cond) ∈ wU := xmU (List.mem_of_getElem? (i := 215) (by decide +kernel)) rfl
theorem ww_216 : (.code ⟨"MemoryLink", "endOf", "(I)LMemoryLink$End;"⟩ prog_1_method_16_code 2 (some (.object "MemoryLink$End")) : Cond) ∈ wU := xmU (List.mem_of_getElem? (i := 216) (by decide +kernel)) rfl
theorem ww_217 : (.methodLink "MemoryLink" 47 ⟨"MemoryLink$End", "allow", "(ZZ)V"⟩ : Cond) ∈ wU := xmU (List.mem_of_getElem? (i := 217) (by decide +kernel)) rfl
theorem ww_218 : (.instanceMethod ⟨"MemoryLink$End", "allow", "(ZZ)V"⟩ : Cond) ∈ wU := xmU (List.mem_of_getElem? (i := 218) (by decide +kernel)) rfl
theorem ww_219 : (.selects "MemoryLink$End" ⟨"MemoryLink$End", "allow", "(ZZ)V"⟩ ⟨"MemoryLink$End", "allow", "(ZZ)V"⟩ : Cond) ∈ wU := xmU (List.mem_of_getElem? (i := 219) (by decide +kernel)) rfl
theorem ww_220 : (.code ⟨"MemoryLink$End", "allow", "(ZZ)V"⟩ prog_2_method_2_code 3 none : Cond) ∈ wU := xmU (List.mem_of_getElem? (i := 220) (by decide +kernel)) rfl
theorem ww_221 : (.methodLink "MemoryLinkLaw" 26 ⟨"MemoryLink", "run", "(I)I"⟩ : Cond) ∈ wU := xmU (List.mem_of_getElem? (i := 221) (by decide +kernel)) rfl
theorem ww_222 : (.instanceMethod ⟨"MemoryLink", "run", "(I)I"⟩ : Cond) ∈ wU := xmU (List.mem_of_getElem? (i := 222) (by decide +kernel)) rfl
theorem ww_223 : (.selects "MemoryLink" ⟨"MemoryLink", "run", "(I)I"⟩ ⟨"MemoryLink", "run", "(I)I"⟩ : Cond) ∈ wU := xmU (List.mem_of_getElem? (i := 223) (by decide +kernel)) rfl
theorem ww_224 : (.code ⟨"MemoryLink", "run", "(I)I"⟩ prog_1_method_3_code 3 (some .int) : Cond) ∈ wU := xmU (List.mem_of_getElem? (i := 224) (by decide +kernel)) rfl
theorem ww_225 : (.methodLink "MemoryLink" 51 ⟨"MemoryLink", "tick", "()V"⟩ : Cond) ∈ wU := xmU (List.mem_of_getElem? (i := 225) (by decide +kernel)) rfl
theorem ww_227 : (.instanceMethod ⟨"MemoryLink", "tick", "()V"⟩ : Cond) ∈ wU := xmU (List.mem_of_getElem? (i := 227) (by decide +kernel)) rfl
theorem ww_228 : (.code ⟨"MemoryLink", "tick", "()V"⟩ prog_1_method_17_code 1 none : Cond) ∈ wU := xmU (List.mem_of_getElem? (i := 228) (by decide +kernel)) rfl
theorem ww_229 : (.methodLink "MemoryLink" 136 ⟨"MemoryLink$End", "arrival", "(IZ)V"⟩ : Cond) ∈ wU := xmU (List.mem_of_getElem? (i := 229) (by decide +kernel)) rfl
theorem ww_230 : (.instanceMethod ⟨"MemoryLink$End", "arrival", "(IZ)V"⟩ : Cond) ∈ wU := xmU (List.mem_of_getElem? (i := 230) (by decide +kernel)) rfl
theorem ww_231 : (.selects "MemoryLink$End" ⟨"MemoryLink$End", "arrival", "(IZ)V"⟩ ⟨"MemoryLink$End", "arrival", "(IZ)V"⟩ : Cond) ∈ wU := xmU (List.mem_of_getElem? (i := 231) (by decide +kernel)) rfl
theorem ww_232 : (.code ⟨"MemoryLink$End", "arrival", "(IZ)V"⟩ prog_2_method_3_code 3 none : Cond) ∈ wU := xmU (List.mem_of_getElem? (i := 232) (by decide +kernel)) rfl
theorem ww_233 : (.methodLink "MemoryLink$End" 48 ⟨"MemoryLink$End", "noticeSilence", "()V"⟩ : Cond) ∈ wU := xmU (List.mem_of_getElem? (i := 233) (by decide +kernel)) rfl
theorem ww_235 : (.instanceMethod ⟨"MemoryLink$End", "noticeSilence", "()V"⟩ : Cond) ∈ wU := xmU (List.mem_of_getElem? (i := 235) (by decide +kernel)) rfl
theorem ww_236 : (.code ⟨"MemoryLink$End", "noticeSilence", "()V"⟩ prog_2_method_4_code 1 none : Cond) ∈ wU := xmU (List.mem_of_getElem? (i := 236) (by decide +kernel)) rfl
theorem ww_237 : (.methodLink "MemoryLink$End" 57 ⟨"MemoryLink$End", "arriveCredit", "()V"⟩ : Cond) ∈ wU := xmU (List.mem_of_getElem? (i := 237) (by decide +kernel)) rfl
theorem ww_239 : (.instanceMethod ⟨"MemoryLink$End", "arriveCredit", "()V"⟩ : Cond) ∈ wU := xmU (List.mem_of_getElem? (i := 239) (by decide +kernel)) rfl
theorem ww_240 : (.code ⟨"MemoryLink$End", "arriveCredit", "()V"⟩ prog_2_method_5_code 1 none : Cond) ∈ wU := xmU (List.mem_of_getElem? (i := 240) (by decide +kernel)) rfl
theorem ww_241 : (.methodLink "MemoryLink$End" 70 ⟨"MemoryLink$End", "begin", "(I)V"⟩ : Cond) ∈ wU := xmU (List.mem_of_getElem? (i := 241) (by decide +kernel)) rfl
theorem ww_243 : (.instanceMethod ⟨"MemoryLink$End", "begin", "(I)V"⟩ : Cond) ∈ wU := xmU (List.mem_of_getElem? (i := 243) (by decide +kernel)) rfl
theorem ww_244 : (.code ⟨"MemoryLink$End", "begin", "(I)V"⟩ prog_2_method_9_code 2 none : Cond) ∈ wU := xmU (List.mem_of_getElem? (i := 244) (by decide +kernel)) rfl
theorem ww_245 : (.methodLink "MemoryLink$End" 60 ⟨"MemoryLink$End", "arriveTime", "(I)V"⟩ : Cond) ∈ wU := xmU (List.mem_of_getElem? (i := 245) (by decide +kernel)) rfl
theorem ww_247 : (.instanceMethod ⟨"MemoryLink$End", "arriveTime", "(I)V"⟩ : Cond) ∈ wU := xmU (List.mem_of_getElem? (i := 247) (by decide +kernel)) rfl
theorem ww_248 : (.code ⟨"MemoryLink$End", "arriveTime", "(I)V"⟩ prog_2_method_6_code 2 none : Cond) ∈ wU := xmU (List.mem_of_getElem? (i := 248) (by decide +kernel)) rfl
theorem ww_249 : (.methodLink "MemoryLink$End" 64 ⟨"MemoryLink$End", "arrivePacketCharacter", "(I)V"⟩ : Cond) ∈ wU := xmU (List.mem_of_getElem? (i := 249) (by decide +kernel)) rfl
theorem ww_251 : (.instanceMethod ⟨"MemoryLink$End", "arrivePacketCharacter", "(I)V"⟩ : Cond) ∈ wU := xmU (List.mem_of_getElem? (i := 251) (by decide +kernel)) rfl
theorem ww_252 : (.code ⟨"MemoryLink$End", "arrivePacketCharacter", "(I)V"⟩ prog_2_method_7_code 2 none : Cond) ∈ wU := xmU (List.mem_of_getElem? (i := 252) (by decide +kernel)) rfl
theorem ww_253 : (.methodLink "MemoryLink$End" 82 ⟨"MemoryLink$Inlet", "receive", "(I)V"⟩ : Cond) ∈ wU := xmU (List.mem_of_getElem? (i := 253) (by decide +kernel)) rfl
theorem ww_254 : (.instanceMethod ⟨"MemoryLink$Inlet", "receive", "(I)V"⟩ : Cond) ∈ wU := xmU (List.mem_of_getElem? (i := 254) (by decide +kernel)) rfl
theorem ww_255 : (.selects "MemoryLink$Inlet" ⟨"MemoryLink$Inlet", "receive", "(I)V"⟩ ⟨"MemoryLink$Inlet", "receive", "(I)V"⟩ : Cond) ∈ wU := xmU (List.mem_of_getElem? (i := 255) (by decide +kernel)) rfl
theorem ww_256 : (.code ⟨"MemoryLink$Inlet", "receive", "(I)V"⟩ prog_3_method_3_code 2 none : Cond) ∈ wU := xmU (List.mem_of_getElem? (i := 256) (by decide +kernel)) rfl
theorem ww_257 : (.methodLink "MemoryLink$Inlet" 24 ⟨"MemoryLink$Row", "append", "(I)V"⟩ : Cond) ∈ wU := xmU (List.mem_of_getElem? (i := 257) (by decide +kernel)) rfl
theorem ww_258 : (.instanceMethod ⟨"MemoryLink$Row", "append", "(I)V"⟩ : Cond) ∈ wU := xmU (List.mem_of_getElem? (i := 258) (by decide +kernel)) rfl
theorem ww_259 : (.selects "MemoryLink$Row" ⟨"MemoryLink$Row", "append", "(I)V"⟩ ⟨"MemoryLink$Row", "append", "(I)V"⟩ : Cond) ∈ wU := xmU (List.mem_of_getElem? (i := 259) (by decide +kernel)) rfl
theorem ww_260 : (.code ⟨"MemoryLink$Row", "append", "(I)V"⟩ prog_6_method_3_code 2 none : Cond) ∈ wU := xmU (List.mem_of_getElem? (i := 260) (by decide +kernel)) rfl
theorem ww_261 : (.methodLink "MemoryLink$Row" 22 ⟨"MemoryLink$Row", "wrapped", "(I)I"⟩ : Cond) ∈ wU := xmU (List.mem_of_getElem? (i := 261) (by decide +kernel)) rfl
theorem ww_263 : (.instanceMethod ⟨"MemoryLink$Row", "wrapped", "(I)I"⟩ : Cond) ∈ wU := xmU (List.mem_of_getElem? (i := 263) (by decide +kernel)) rfl
theorem ww_264 : (.code ⟨"MemoryLink$Row", "wrapped", "(I)I"⟩ prog_6_method_5_code 2 (some .int) : Cond) ∈ wU := xmU (List.mem_of_getElem? (i := 264) (by decide +kernel)) rfl
theorem ww_266 : (.static ⟨"MemoryLink", "isData", "(I)Z"⟩ : Cond) ∈ wU := xmU (List.mem_of_getElem? (i := 266) (by decide +kernel)) rfl
theorem ww_267 : (.code ⟨"MemoryLink", "isData", "(I)Z"⟩ prog_1_method_15_code 1 (some .boolean) : Cond) ∈ wU := xmU (List.mem_of_getElem? (i := 267) (by decide +kernel)) rfl
theorem ww_268 : (.methodLink "MemoryLink" 140 ⟨"MemoryLink$End", "moveOn", "()V"⟩ : Cond) ∈ wU := xmU (List.mem_of_getElem? (i := 268) (by decide +kernel)) rfl
theorem ww_269 : (.instanceMethod ⟨"MemoryLink$End", "moveOn", "()V"⟩ : Cond) ∈ wU := xmU (List.mem_of_getElem? (i := 269) (by decide +kernel)) rfl
theorem ww_270 : (.selects "MemoryLink$End" ⟨"MemoryLink$End", "moveOn", "()V"⟩ ⟨"MemoryLink$End", "moveOn", "()V"⟩ : Cond) ∈ wU := xmU (List.mem_of_getElem? (i := 270) (by decide +kernel)) rfl
theorem ww_271 : (.code ⟨"MemoryLink$End", "moveOn", "()V"⟩ prog_2_method_8_code 1 none : Cond) ∈ wU := xmU (List.mem_of_getElem? (i := 271) (by decide +kernel)) rfl
theorem ww_272 : (.methodLink "MemoryLink$End" 85 ⟨"MemoryLink$End", "fall", "()V"⟩ : Cond) ∈ wU := xmU (List.mem_of_getElem? (i := 272) (by decide +kernel)) rfl
theorem ww_274 : (.instanceMethod ⟨"MemoryLink$End", "fall", "()V"⟩ : Cond) ∈ wU := xmU (List.mem_of_getElem? (i := 274) (by decide +kernel)) rfl
theorem ww_275 : (.code ⟨"MemoryLink$End", "fall", "()V"⟩ prog_2_method_12_code 1 none : Cond) ∈ wU := xmU (List.mem_of_getElem? (i := 275) (by decide +kernel)) rfl
theorem ww_276 : (.methodLink "MemoryLink$End" 98 ⟨"MemoryLink$Inlet", "breakOff", "()V"⟩ : Cond) ∈ wU := xmU (List.mem_of_getElem? (i := 276) (by decide +kernel)) rfl
theorem ww_277 : (.instanceMethod ⟨"MemoryLink$Inlet", "breakOff", "()V"⟩ : Cond) ∈ wU := xmU (List.mem_of_getElem? (i := 277) (by decide +kernel)) rfl
theorem ww_278 : (.selects "MemoryLink$Inlet" ⟨"MemoryLink$Inlet", "breakOff", "()V"⟩ ⟨"MemoryLink$Inlet", "breakOff", "()V"⟩ : Cond) ∈ wU := xmU (List.mem_of_getElem? (i := 278) (by decide +kernel)) rfl
theorem ww_279 : (.code ⟨"MemoryLink$Inlet", "breakOff", "()V"⟩ prog_3_method_5_code 1 none : Cond) ∈ wU := xmU (List.mem_of_getElem? (i := 279) (by decide +kernel)) rfl
theorem ww_280 : (.methodLink "MemoryLink$End" 101 ⟨"MemoryLink$Outlet", "breakOff", "()V"⟩ : Cond) ∈ wU := xmU (List.mem_of_getElem? (i := 280) (by decide +kernel)) rfl
theorem ww_281 : (.instanceMethod ⟨"MemoryLink$Outlet", "breakOff", "()V"⟩ : Cond) ∈ wU := xmU (List.mem_of_getElem? (i := 281) (by decide +kernel)) rfl
theorem ww_282 : (.selects "MemoryLink$Outlet" ⟨"MemoryLink$Outlet", "breakOff", "()V"⟩ ⟨"MemoryLink$Outlet", "breakOff", "()V"⟩ : Cond) ∈ wU := xmU (List.mem_of_getElem? (i := 282) (by decide +kernel)) rfl
theorem ww_283 : (.code ⟨"MemoryLink$Outlet", "breakOff", "()V"⟩ prog_4_method_7_code 2 none : Cond) ∈ wU := xmU (List.mem_of_getElem? (i := 283) (by decide +kernel)) rfl
theorem ww_284 : (.methodLink "MemoryLink$Outlet" 51 ⟨"MemoryLink$Row", "removeFirst", "()I"⟩ : Cond) ∈ wU := xmU (List.mem_of_getElem? (i := 284) (by decide +kernel)) rfl
theorem ww_285 : (.instanceMethod ⟨"MemoryLink$Row", "removeFirst", "()I"⟩ : Cond) ∈ wU := xmU (List.mem_of_getElem? (i := 285) (by decide +kernel)) rfl
theorem ww_286 : (.selects "MemoryLink$Row" ⟨"MemoryLink$Row", "removeFirst", "()I"⟩ ⟨"MemoryLink$Row", "removeFirst", "()I"⟩ : Cond) ∈ wU := xmU (List.mem_of_getElem? (i := 286) (by decide +kernel)) rfl
theorem ww_287 : (.code ⟨"MemoryLink$Row", "removeFirst", "()I"⟩ prog_6_method_4_code 2 (some .int) : Cond) ∈ wU := xmU (List.mem_of_getElem? (i := 287) (by decide +kernel)) rfl
theorem ww_289 : (.methodLink "MemoryLink$End" 91 ⟨"MemoryLink$End", "beginAfter", "(II)V"⟩ : Cond) ∈ wU := xmU (List.mem_of_getElem? (i := 289) (by decide +kernel)) rfl
theorem ww_291 : (.instanceMethod ⟨"MemoryLink$End", "beginAfter", "(II)V"⟩ : Cond) ∈ wU := xmU (List.mem_of_getElem? (i := 291) (by decide +kernel)) rfl
theorem ww_292 : (.code ⟨"MemoryLink$End", "beginAfter", "(II)V"⟩ prog_2_method_10_code 3 none : Cond) ∈ wU := xmU (List.mem_of_getElem? (i := 292) (by decide +kernel)) rfl
theorem ww_293 : (.methodLink "MemoryLink$End" 95 ⟨"MemoryLink$End", "fallAfterPatience", "()V"⟩ : Cond) ∈ wU := xmU (List.mem_of_getElem? (i := 293) (by decide +kernel)) rfl
theorem ww_295 : (.instanceMethod ⟨"MemoryLink$End", "fallAfterPatience", "()V"⟩ : Cond) ∈ wU := xmU (List.mem_of_getElem? (i := 295) (by decide +kernel)) rfl
theorem ww_296 : (.code ⟨"MemoryLink$End", "fallAfterPatience", "()V"⟩ prog_2_method_11_code 1 none : Cond) ∈ wU := xmU (List.mem_of_getElem? (i := 296) (by decide +kernel)) rfl
theorem ww_297 : (.methodLink "MemoryLink" 143 ⟨"MemoryLink$End", "transmit", "()V"⟩ : Cond) ∈ wU := xmU (List.mem_of_getElem? (i := 297) (by decide +kernel)) rfl
theorem ww_298 : (.instanceMethod ⟨"MemoryLink$End", "transmit", "()V"⟩ : Cond) ∈ wU := xmU (List.mem_of_getElem? (i := 298) (by decide +kernel)) rfl
theorem ww_299 : (.selects "MemoryLink$End" ⟨"MemoryLink$End", "transmit", "()V"⟩ ⟨"MemoryLink$End", "transmit", "()V"⟩ : Cond) ∈ wU := xmU (List.mem_of_getElem? (i := 299) (by decide +kernel)) rfl
theorem ww_300 : (.code ⟨"MemoryLink$End", "transmit", "()V"⟩ prog_2_method_13_code 1 none : Cond) ∈ wU := xmU (List.mem_of_getElem? (i := 300) (by decide +kernel)) rfl
theorem ww_301 : (.methodLink "MemoryLink$End" 105 ⟨"MemoryLink$End", "nextCharacter", "()I"⟩ : Cond) ∈ wU := xmU (List.mem_of_getElem? (i := 301) (by decide +kernel)) rfl
theorem ww_303 : (.instanceMethod ⟨"MemoryLink$End", "nextCharacter", "()I"⟩ : Cond) ∈ wU := xmU (List.mem_of_getElem? (i := 303) (by decide +kernel)) rfl
theorem ww_304 : (.code ⟨"MemoryLink$End", "nextCharacter", "()I"⟩ prog_2_method_14_code 1 (some .int) : Cond) ∈ wU := xmU (List.mem_of_getElem? (i := 304) (by decide +kernel)) rfl
theorem ww_305 : (.methodLink "MemoryLink$End" 115 ⟨"MemoryLink$End", "canLend", "()Z"⟩ : Cond) ∈ wU := xmU (List.mem_of_getElem? (i := 305) (by decide +kernel)) rfl
theorem ww_307 : (.instanceMethod ⟨"MemoryLink$End", "canLend", "()Z"⟩ : Cond) ∈ wU := xmU (List.mem_of_getElem? (i := 307) (by decide +kernel)) rfl
theorem ww_308 : (.code ⟨"MemoryLink$End", "canLend", "()Z"⟩ prog_2_method_16_code 1 (some .boolean) : Cond) ∈ wU := xmU (List.mem_of_getElem? (i := 308) (by decide +kernel)) rfl
theorem ww_309 : (.methodLink "MemoryLink$End" 131 ⟨"MemoryLink$Inlet", "size", "()I"⟩ : Cond) ∈ wU := xmU (List.mem_of_getElem? (i := 309) (by decide +kernel)) rfl
theorem ww_310 : (.instanceMethod ⟨"MemoryLink$Inlet", "size", "()I"⟩ : Cond) ∈ wU := xmU (List.mem_of_getElem? (i := 310) (by decide +kernel)) rfl
theorem ww_311 : (.selects "MemoryLink$Inlet" ⟨"MemoryLink$Inlet", "size", "()I"⟩ ⟨"MemoryLink$Inlet", "size", "()I"⟩ : Cond) ∈ wU := xmU (List.mem_of_getElem? (i := 311) (by decide +kernel)) rfl
theorem ww_312 : (.code ⟨"MemoryLink$Inlet", "size", "()I"⟩ prog_3_method_2_code 1 (some .int) : Cond) ∈ wU := xmU (List.mem_of_getElem? (i := 312) (by decide +kernel)) rfl
theorem ww_313 : (.methodLink "MemoryLink$End" 119 ⟨"MemoryLink$End", "lend", "()I"⟩ : Cond) ∈ wU := xmU (List.mem_of_getElem? (i := 313) (by decide +kernel)) rfl
theorem ww_315 : (.instanceMethod ⟨"MemoryLink$End", "lend", "()I"⟩ : Cond) ∈ wU := xmU (List.mem_of_getElem? (i := 315) (by decide +kernel)) rfl
theorem ww_316 : (.code ⟨"MemoryLink$End", "lend", "()I"⟩ prog_2_method_17_code 1 (some .int) : Cond) ∈ wU := xmU (List.mem_of_getElem? (i := 316) (by decide +kernel)) rfl
theorem ww_317 : (.methodLink "MemoryLink$End" 122 ⟨"MemoryLink$End", "nextInRun", "()I"⟩ : Cond) ∈ wU := xmU (List.mem_of_getElem? (i := 317) (by decide +kernel)) rfl
theorem ww_319 : (.instanceMethod ⟨"MemoryLink$End", "nextInRun", "()I"⟩ : Cond) ∈ wU := xmU (List.mem_of_getElem? (i := 319) (by decide +kernel)) rfl
theorem ww_320 : (.code ⟨"MemoryLink$End", "nextInRun", "()I"⟩ prog_2_method_15_code 2 (some .int) : Cond) ∈ wU := xmU (List.mem_of_getElem? (i := 320) (by decide +kernel)) rfl
theorem ww_321 : (.methodLink "MemoryLink$End" 125 ⟨"MemoryLink$Outlet", "size", "()I"⟩ : Cond) ∈ wU := xmU (List.mem_of_getElem? (i := 321) (by decide +kernel)) rfl
theorem ww_322 : (.instanceMethod ⟨"MemoryLink$Outlet", "size", "()I"⟩ : Cond) ∈ wU := xmU (List.mem_of_getElem? (i := 322) (by decide +kernel)) rfl
theorem ww_323 : (.selects "MemoryLink$Outlet" ⟨"MemoryLink$Outlet", "size", "()I"⟩ ⟨"MemoryLink$Outlet", "size", "()I"⟩ : Cond) ∈ wU := xmU (List.mem_of_getElem? (i := 323) (by decide +kernel)) rfl
theorem ww_324 : (.code ⟨"MemoryLink$Outlet", "size", "()I"⟩ prog_4_method_2_code 1 (some .int) : Cond) ∈ wU := xmU (List.mem_of_getElem? (i := 324) (by decide +kernel)) rfl
theorem ww_325 : (.methodLink "MemoryLink$End" 128 ⟨"MemoryLink$Outlet", "removeFirst", "()I"⟩ : Cond) ∈ wU := xmU (List.mem_of_getElem? (i := 325) (by decide +kernel)) rfl
theorem ww_326 : (.instanceMethod ⟨"MemoryLink$Outlet", "removeFirst", "()I"⟩ : Cond) ∈ wU := xmU (List.mem_of_getElem? (i := 326) (by decide +kernel)) rfl
theorem ww_327 : (.selects "MemoryLink$Outlet" ⟨"MemoryLink$Outlet", "removeFirst", "()I"⟩ ⟨"MemoryLink$Outlet", "removeFirst", "()I"⟩ : Cond) ∈ wU := xmU (List.mem_of_getElem? (i := 327) (by decide +kernel)) rfl
theorem ww_328 : (.code ⟨"MemoryLink$Outlet", "removeFirst", "()I"⟩ prog_4_method_6_code 2 (some .int) : Cond) ∈ wU := xmU (List.mem_of_getElem? (i := 328) (by decide +kernel)) rfl
theorem ww_329 : (.methodLink "MemoryLink" 146 ⟨"MemoryLink$Target", "act", "(LMemoryLink$End;)V"⟩ : Cond) ∈ wU := xmU (List.mem_of_getElem? (i := 329) (by decide +kernel)) rfl
theorem ww_330 : (.instanceMethod ⟨"MemoryLink$Target", "act", "(LMemoryLink$End;)V"⟩ : Cond) ∈ wU := xmU (List.mem_of_getElem? (i := 330) (by decide +kernel)) rfl
theorem ww_331 : (.selects "MemoryLink$Target" ⟨"MemoryLink$Target", "act", "(LMemoryLink$End;)V"⟩ ⟨"MemoryLink$Target", "act", "(LMemoryLink$End;)V"⟩ : Cond) ∈ wU := xmU (List.mem_of_getElem? (i := 331) (by decide +kernel)) rfl
theorem ww_332 : (.code ⟨"MemoryLink$Target", "act", "(LMemoryLink$End;)V"⟩ prog_7_method_3_code 3 none : Cond) ∈ wU := xmU (List.mem_of_getElem? (i := 332) (by decide +kernel)) rfl
theorem ww_333 : (.methodLink "MemoryLink$Target" 44 ⟨"MemoryLink$Target", "sendReply", "(LMemoryLink$Outlet;)V"⟩ : Cond) ∈ wU := xmU (List.mem_of_getElem? (i := 333) (by decide +kernel)) rfl
theorem ww_335 : (.instanceMethod ⟨"MemoryLink$Target", "sendReply", "(LMemoryLink$Outlet;)V"⟩ : Cond) ∈ wU := xmU (List.mem_of_getElem? (i := 335) (by decide +kernel)) rfl
theorem ww_336 : (.code ⟨"MemoryLink$Target", "sendReply", "(LMemoryLink$Outlet;)V"⟩ prog_7_method_5_code 2 none : Cond) ∈ wU := xmU (List.mem_of_getElem? (i := 336) (by decide +kernel)) rfl
theorem ww_337 : (.methodLink "MemoryLink$Target" 86 ⟨"MemoryLink$Outlet", "free", "()I"⟩ : Cond) ∈ wU := xmU (List.mem_of_getElem? (i := 337) (by decide +kernel)) rfl
theorem ww_338 : (.instanceMethod ⟨"MemoryLink$Outlet", "free", "()I"⟩ : Cond) ∈ wU := xmU (List.mem_of_getElem? (i := 338) (by decide +kernel)) rfl
theorem ww_339 : (.selects "MemoryLink$Outlet" ⟨"MemoryLink$Outlet", "free", "()I"⟩ ⟨"MemoryLink$Outlet", "free", "()I"⟩ : Cond) ∈ wU := xmU (List.mem_of_getElem? (i := 339) (by decide +kernel)) rfl
theorem ww_340 : (.code ⟨"MemoryLink$Outlet", "free", "()I"⟩ prog_4_method_3_code 1 (some .int) : Cond) ∈ wU := xmU (List.mem_of_getElem? (i := 340) (by decide +kernel)) rfl
theorem ww_341 : (.methodLink "MemoryLink$Outlet" 24 ⟨"MemoryLink$Row", "free", "()I"⟩ : Cond) ∈ wU := xmU (List.mem_of_getElem? (i := 341) (by decide +kernel)) rfl
theorem ww_342 : (.instanceMethod ⟨"MemoryLink$Row", "free", "()I"⟩ : Cond) ∈ wU := xmU (List.mem_of_getElem? (i := 342) (by decide +kernel)) rfl
theorem ww_343 : (.selects "MemoryLink$Row" ⟨"MemoryLink$Row", "free", "()I"⟩ ⟨"MemoryLink$Row", "free", "()I"⟩ : Cond) ∈ wU := xmU (List.mem_of_getElem? (i := 343) (by decide +kernel)) rfl
theorem ww_344 : (.code ⟨"MemoryLink$Row", "free", "()I"⟩ prog_6_method_2_code 1 (some .int) : Cond) ∈ wU := xmU (List.mem_of_getElem? (i := 344) (by decide +kernel)) rfl
theorem ww_345 : (.methodLink "MemoryLink$Target" 91 ⟨"MemoryLink$Outlet", "acceptAll", "(LMemoryLink$Packet;)V"⟩ : Cond) ∈ wU := xmU (List.mem_of_getElem? (i := 345) (by decide +kernel)) rfl
theorem ww_346 : (.instanceMethod ⟨"MemoryLink$Outlet", "acceptAll", "(LMemoryLink$Packet;)V"⟩ : Cond) ∈ wU := xmU (List.mem_of_getElem? (i := 346) (by decide +kernel)) rfl
theorem ww_347 : (.selects "MemoryLink$Outlet" ⟨"MemoryLink$Outlet", "acceptAll", "(LMemoryLink$Packet;)V"⟩ ⟨"MemoryLink$Outlet", "acceptAll", "(LMemoryLink$Packet;)V"⟩ : Cond) ∈ wU := xmU (List.mem_of_getElem? (i := 347) (by decide +kernel)) rfl
theorem ww_348 : (.code ⟨"MemoryLink$Outlet", "acceptAll", "(LMemoryLink$Packet;)V"⟩ prog_4_method_5_code 3 none : Cond) ∈ wU := xmU (List.mem_of_getElem? (i := 348) (by decide +kernel)) rfl
theorem ww_349 : (.methodLink "MemoryLink$Outlet" 44 ⟨"MemoryLink$Packet", "at", "(I)I"⟩ : Cond) ∈ wU := xmU (List.mem_of_getElem? (i := 349) (by decide +kernel)) rfl
theorem ww_350 : (.instanceMethod ⟨"MemoryLink$Packet", "at", "(I)I"⟩ : Cond) ∈ wU := xmU (List.mem_of_getElem? (i := 350) (by decide +kernel)) rfl
theorem ww_351 : (.selects "MemoryLink$Packet" ⟨"MemoryLink$Packet", "at", "(I)I"⟩ ⟨"MemoryLink$Packet", "at", "(I)I"⟩ : Cond) ∈ wU := xmU (List.mem_of_getElem? (i := 351) (by decide +kernel)) rfl
theorem ww_352 : (.code ⟨"MemoryLink$Packet", "at", "(I)I"⟩ prog_5_method_4_code 2 (some .int) : Cond) ∈ wU := xmU (List.mem_of_getElem? (i := 352) (by decide +kernel)) rfl
theorem ww_353 : (.methodLink "MemoryLink$Outlet" 48 ⟨"MemoryLink$Outlet", "accept", "(I)V"⟩ : Cond) ∈ wU := xmU (List.mem_of_getElem? (i := 353) (by decide +kernel)) rfl
theorem ww_354 : (.instanceMethod ⟨"MemoryLink$Outlet", "accept", "(I)V"⟩ : Cond) ∈ wU := xmU (List.mem_of_getElem? (i := 354) (by decide +kernel)) rfl
theorem ww_355 : (.selects "MemoryLink$Outlet" ⟨"MemoryLink$Outlet", "accept", "(I)V"⟩ ⟨"MemoryLink$Outlet", "accept", "(I)V"⟩ : Cond) ∈ wU := xmU (List.mem_of_getElem? (i := 355) (by decide +kernel)) rfl
theorem ww_356 : (.code ⟨"MemoryLink$Outlet", "accept", "(I)V"⟩ prog_4_method_4_code 2 none : Cond) ∈ wU := xmU (List.mem_of_getElem? (i := 356) (by decide +kernel)) rfl
theorem ww_357 : (.methodLink "MemoryLink$Outlet" 36 ⟨"MemoryLink$Row", "append", "(I)V"⟩ : Cond) ∈ wU := xmU (List.mem_of_getElem? (i := 357) (by decide +kernel)) rfl
theorem ww_358 : (.methodLink "MemoryLink$Target" 52 ⟨"MemoryLink$Inlet", "removeFirst", "()I"⟩ : Cond) ∈ wU := xmU (List.mem_of_getElem? (i := 358) (by decide +kernel)) rfl
theorem ww_359 : (.instanceMethod ⟨"MemoryLink$Inlet", "removeFirst", "()I"⟩ : Cond) ∈ wU := xmU (List.mem_of_getElem? (i := 359) (by decide +kernel)) rfl
theorem ww_360 : (.selects "MemoryLink$Inlet" ⟨"MemoryLink$Inlet", "removeFirst", "()I"⟩ ⟨"MemoryLink$Inlet", "removeFirst", "()I"⟩ : Cond) ∈ wU := xmU (List.mem_of_getElem? (i := 360) (by decide +kernel)) rfl
theorem ww_361 : (.code ⟨"MemoryLink$Inlet", "removeFirst", "()I"⟩ prog_3_method_4_code 1 (some .int) : Cond) ∈ wU := xmU (List.mem_of_getElem? (i := 361) (by decide +kernel)) rfl
theorem ww_362 : (.methodLink "MemoryLink$Inlet" 35 ⟨"MemoryLink$Row", "removeFirst", "()I"⟩ : Cond) ∈ wU := xmU (List.mem_of_getElem? (i := 362) (by decide +kernel)) rfl
theorem ww_364 : (.methodLink "MemoryLink$Target" 62 ⟨"MemoryLink$Packet", "add", "(I)V"⟩ : Cond) ∈ wU := xmU (List.mem_of_getElem? (i := 364) (by decide +kernel)) rfl
theorem ww_365 : (.instanceMethod ⟨"MemoryLink$Packet", "add", "(I)V"⟩ : Cond) ∈ wU := xmU (List.mem_of_getElem? (i := 365) (by decide +kernel)) rfl
theorem ww_366 : (.selects "MemoryLink$Packet" ⟨"MemoryLink$Packet", "add", "(I)V"⟩ ⟨"MemoryLink$Packet", "add", "(I)V"⟩ : Cond) ∈ wU := xmU (List.mem_of_getElem? (i := 366) (by decide +kernel)) rfl
theorem ww_367 : (.code ⟨"MemoryLink$Packet", "add", "(I)V"⟩ prog_5_method_3_code 2 none : Cond) ∈ wU := xmU (List.mem_of_getElem? (i := 367) (by decide +kernel)) rfl
theorem ww_368 : (.methodLink "MemoryLink$Target" 65 ⟨"MemoryLink$Target", "holdsCommand", "()Z"⟩ : Cond) ∈ wU := xmU (List.mem_of_getElem? (i := 368) (by decide +kernel)) rfl
theorem ww_370 : (.instanceMethod ⟨"MemoryLink$Target", "holdsCommand", "()Z"⟩ : Cond) ∈ wU := xmU (List.mem_of_getElem? (i := 370) (by decide +kernel)) rfl
theorem ww_371 : (.code ⟨"MemoryLink$Target", "holdsCommand", "()Z"⟩ prog_7_method_4_code 1 (some .boolean) : Cond) ∈ wU := xmU (List.mem_of_getElem? (i := 371) (by decide +kernel)) rfl
theorem ww_372 : (.methodLink "MemoryLink$Target" 78 ⟨"MemoryLink$Packet", "at", "(I)I"⟩ : Cond) ∈ wU := xmU (List.mem_of_getElem? (i := 372) (by decide +kernel)) rfl
theorem ww_373 : (.methodLink "MemoryLink$Target" 82 ⟨"MemoryLink$Packet", "check", "(II)I"⟩ : Cond) ∈ wU := xmU (List.mem_of_getElem? (i := 373) (by decide +kernel)) rfl
theorem ww_374 : (.instanceMethod ⟨"MemoryLink$Packet", "check", "(II)I"⟩ : Cond) ∈ wU := xmU (List.mem_of_getElem? (i := 374) (by decide +kernel)) rfl
theorem ww_375 : (.selects "MemoryLink$Packet" ⟨"MemoryLink$Packet", "check", "(II)I"⟩ ⟨"MemoryLink$Packet", "check", "(II)I"⟩ : Cond) ∈ wU := xmU (List.mem_of_getElem? (i := 375) (by decide +kernel)) rfl
theorem ww_376 : (.code ⟨"MemoryLink$Packet", "check", "(II)I"⟩ prog_5_method_5_code 6 (some .int) : Cond) ∈ wU := xmU (List.mem_of_getElem? (i := 376) (by decide +kernel)) rfl
theorem ww_377 : (.methodLink "MemoryLink$Packet" 17 ⟨"MemoryLink$Packet", "at", "(I)I"⟩ : Cond) ∈ wU := xmU (List.mem_of_getElem? (i := 377) (by decide +kernel)) rfl
theorem ww_378 : (.methodLink "MemoryLink$Target" 69 ⟨"MemoryLink$Target", "obey", "()V"⟩ : Cond) ∈ wU := xmU (List.mem_of_getElem? (i := 378) (by decide +kernel)) rfl
theorem ww_380 : (.instanceMethod ⟨"MemoryLink$Target", "obey", "()V"⟩ : Cond) ∈ wU := xmU (List.mem_of_getElem? (i := 380) (by decide +kernel)) rfl
theorem ww_381 : (.code ⟨"MemoryLink$Target", "obey", "()V"⟩ prog_7_method_6_code 2 none : Cond) ∈ wU := xmU (List.mem_of_getElem? (i := 381) (by decide +kernel)) rfl
theorem ww_382 : (.methodLink "MemoryLink$Target" 95 ⟨"MemoryLink$Target", "judge", "()I"⟩ : Cond) ∈ wU := xmU (List.mem_of_getElem? (i := 382) (by decide +kernel)) rfl
theorem ww_384 : (.instanceMethod ⟨"MemoryLink$Target", "judge", "()I"⟩ : Cond) ∈ wU := xmU (List.mem_of_getElem? (i := 384) (by decide +kernel)) rfl
theorem ww_385 : (.code ⟨"MemoryLink$Target", "judge", "()I"⟩ prog_7_method_11_code 3 (some .int) : Cond) ∈ wU := xmU (List.mem_of_getElem? (i := 385) (by decide +kernel)) rfl
theorem ww_386 : (.methodLink "MemoryLink$Target" 125 ⟨"MemoryLink$Target", "isKnown", "(I)Z"⟩ : Cond) ∈ wU := xmU (List.mem_of_getElem? (i := 386) (by decide +kernel)) rfl
theorem ww_387 : (.static ⟨"MemoryLink$Target", "isKnown", "(I)Z"⟩ : Cond) ∈ wU := xmU (List.mem_of_getElem? (i := 387) (by decide +kernel)) rfl
theorem ww_388 : (.code ⟨"MemoryLink$Target", "isKnown", "(I)Z"⟩ prog_7_method_10_code 1 (some .boolean) : Cond) ∈ wU := xmU (List.mem_of_getElem? (i := 388) (by decide +kernel)) rfl
theorem ww_389 : (.methodLink "MemoryLink$Target" 101 ⟨"MemoryLink$Target", "isWrite", "(I)Z"⟩ : Cond) ∈ wU := xmU (List.mem_of_getElem? (i := 389) (by decide +kernel)) rfl
theorem ww_390 : (.static ⟨"MemoryLink$Target", "isWrite", "(I)Z"⟩ : Cond) ∈ wU := xmU (List.mem_of_getElem? (i := 390) (by decide +kernel)) rfl
theorem ww_391 : (.code ⟨"MemoryLink$Target", "isWrite", "(I)Z"⟩ prog_7_method_7_code 1 (some .boolean) : Cond) ∈ wU := xmU (List.mem_of_getElem? (i := 391) (by decide +kernel)) rfl
theorem ww_392 : (.methodLink "MemoryLink$Target" 122 ⟨"MemoryLink$Target", "isRead", "(I)Z"⟩ : Cond) ∈ wU := xmU (List.mem_of_getElem? (i := 392) (by decide +kernel)) rfl
theorem ww_393 : (.static ⟨"MemoryLink$Target", "isRead", "(I)Z"⟩ : Cond) ∈ wU := xmU (List.mem_of_getElem? (i := 393) (by decide +kernel)) rfl
theorem ww_394 : (.code ⟨"MemoryLink$Target", "isRead", "(I)Z"⟩ prog_7_method_8_code 1 (some .boolean) : Cond) ∈ wU := xmU (List.mem_of_getElem? (i := 394) (by decide +kernel)) rfl
theorem ww_395 : (.methodLink "MemoryLink$Target" 113 ⟨"MemoryLink$Target", "isChange", "(I)Z"⟩ : Cond) ∈ wU := xmU (List.mem_of_getElem? (i := 395) (by decide +kernel)) rfl
theorem ww_396 : (.static ⟨"MemoryLink$Target", "isChange", "(I)Z"⟩ : Cond) ∈ wU := xmU (List.mem_of_getElem? (i := 396) (by decide +kernel)) rfl
theorem ww_397 : (.code ⟨"MemoryLink$Target", "isChange", "(I)Z"⟩ prog_7_method_9_code 1 (some .boolean) : Cond) ∈ wU := xmU (List.mem_of_getElem? (i := 397) (by decide +kernel)) rfl
theorem ww_398 : (.methodLink "MemoryLink$Target" 128 ⟨"MemoryLink$Target", "isChangeLength", "(I)Z"⟩ : Cond) ∈ wU := xmU (List.mem_of_getElem? (i := 398) (by decide +kernel)) rfl
theorem ww_399 : (.static ⟨"MemoryLink$Target", "isChangeLength", "(I)Z"⟩ : Cond) ∈ wU := xmU (List.mem_of_getElem? (i := 399) (by decide +kernel)) rfl
theorem ww_400 : (.code ⟨"MemoryLink$Target", "isChangeLength", "(I)Z"⟩ prog_7_method_12_code 1 (some .boolean) : Cond) ∈ wU := xmU (List.mem_of_getElem? (i := 400) (by decide +kernel)) rfl
theorem ww_401 : (.methodLink "MemoryLink$Target" 131 ⟨"MemoryLink$Target", "lastAddress", "(I)I"⟩ : Cond) ∈ wU := xmU (List.mem_of_getElem? (i := 401) (by decide +kernel)) rfl
theorem ww_403 : (.instanceMethod ⟨"MemoryLink$Target", "lastAddress", "(I)I"⟩ : Cond) ∈ wU := xmU (List.mem_of_getElem? (i := 403) (by decide +kernel)) rfl
theorem ww_404 : (.code ⟨"MemoryLink$Target", "lastAddress", "(I)I"⟩ prog_7_method_13_code 3 (some .int) : Cond) ∈ wU := xmU (List.mem_of_getElem? (i := 404) (by decide +kernel)) rfl
theorem ww_405 : (.methodLink "MemoryLink$Target" 137 ⟨"MemoryLink$Target", "reach", "(I)I"⟩ : Cond) ∈ wU := xmU (List.mem_of_getElem? (i := 405) (by decide +kernel)) rfl
theorem ww_407 : (.instanceMethod ⟨"MemoryLink$Target", "reach", "(I)I"⟩ : Cond) ∈ wU := xmU (List.mem_of_getElem? (i := 407) (by decide +kernel)) rfl
theorem ww_408 : (.code ⟨"MemoryLink$Target", "reach", "(I)I"⟩ prog_7_method_14_code 3 (some .int) : Cond) ∈ wU := xmU (List.mem_of_getElem? (i := 408) (by decide +kernel)) rfl
theorem ww_409 : (.methodLink "MemoryLink$Target" 140 ⟨"java/lang/Math", "max", "(II)I"⟩ : Cond) ∈ wU := xmU (List.mem_of_getElem? (i := 409) (by decide +kernel)) rfl
theorem ww_410 : (.static ⟨"java/lang/Math", "max", "(II)I"⟩ : Cond) ∈ wU := xmU (List.mem_of_getElem? (i := 410) (by decide +kernel)) rfl
theorem ww_411 : (.code ⟨"java/lang/Math", "max", "(II)I"⟩ prog_10_method_65_code 2 (some .int) : Cond) ∈ wU := xmU (List.mem_of_getElem? (i := 411) (by decide +kernel)) rfl
theorem ww_412 : (.methodLink "MemoryLink$Target" 134 ⟨"MemoryLink$Target", "judgeData", "(I)I"⟩ : Cond) ∈ wU := xmU (List.mem_of_getElem? (i := 412) (by decide +kernel)) rfl
theorem ww_414 : (.instanceMethod ⟨"MemoryLink$Target", "judgeData", "(I)I"⟩ : Cond) ∈ wU := xmU (List.mem_of_getElem? (i := 414) (by decide +kernel)) rfl
theorem ww_415 : (.code ⟨"MemoryLink$Target", "judgeData", "(I)I"⟩ prog_7_method_16_code 3 (some .int) : Cond) ∈ wU := xmU (List.mem_of_getElem? (i := 415) (by decide +kernel)) rfl
theorem ww_416 : (.methodLink "MemoryLink$Target" 145 ⟨"MemoryLink$Target", "dataCount", "()I"⟩ : Cond) ∈ wU := xmU (List.mem_of_getElem? (i := 416) (by decide +kernel)) rfl
theorem ww_418 : (.instanceMethod ⟨"MemoryLink$Target", "dataCount", "()I"⟩ : Cond) ∈ wU := xmU (List.mem_of_getElem? (i := 418) (by decide +kernel)) rfl
theorem ww_419 : (.code ⟨"MemoryLink$Target", "dataCount", "()I"⟩ prog_7_method_15_code 1 (some .int) : Cond) ∈ wU := xmU (List.mem_of_getElem? (i := 419) (by decide +kernel)) rfl
theorem ww_420 : (.methodLink "MemoryLink$Target" 72 ⟨"MemoryLink$Packet", "clear", "()V"⟩ : Cond) ∈ wU := xmU (List.mem_of_getElem? (i := 420) (by decide +kernel)) rfl
theorem ww_421 : (.instanceMethod ⟨"MemoryLink$Packet", "clear", "()V"⟩ : Cond) ∈ wU := xmU (List.mem_of_getElem? (i := 421) (by decide +kernel)) rfl
theorem ww_422 : (.selects "MemoryLink$Packet" ⟨"MemoryLink$Packet", "clear", "()V"⟩ ⟨"MemoryLink$Packet", "clear", "()V"⟩ : Cond) ∈ wU := xmU (List.mem_of_getElem? (i := 422) (by decide +kernel)) rfl
theorem ww_423 : (.code ⟨"MemoryLink$Packet", "clear", "()V"⟩ prog_5_method_2_code 1 none : Cond) ∈ wU := xmU (List.mem_of_getElem? (i := 423) (by decide +kernel)) rfl
theorem ww_424 : (.methodLink "MemoryLink$Target" 104 ⟨"MemoryLink$Target", "mayWrite", "(I)Z"⟩ : Cond) ∈ wU := xmU (List.mem_of_getElem? (i := 424) (by decide +kernel)) rfl
theorem ww_426 : (.instanceMethod ⟨"MemoryLink$Target", "mayWrite", "(I)Z"⟩ : Cond) ∈ wU := xmU (List.mem_of_getElem? (i := 426) (by decide +kernel)) rfl
theorem ww_427 : (.code ⟨"MemoryLink$Target", "mayWrite", "(I)Z"⟩ prog_7_method_17_code 3 (some .boolean) : Cond) ∈ wU := xmU (List.mem_of_getElem? (i := 427) (by decide +kernel)) rfl
theorem ww_428 : (.methodLink "MemoryLink$Target" 107 ⟨"MemoryLink$Target", "writeData", "()V"⟩ : Cond) ∈ wU := xmU (List.mem_of_getElem? (i := 428) (by decide +kernel)) rfl
theorem ww_430 : (.instanceMethod ⟨"MemoryLink$Target", "writeData", "()V"⟩ : Cond) ∈ wU := xmU (List.mem_of_getElem? (i := 430) (by decide +kernel)) rfl
theorem ww_431 : (.code ⟨"MemoryLink$Target", "writeData", "()V"⟩ prog_7_method_20_code 3 none : Cond) ∈ wU := xmU (List.mem_of_getElem? (i := 431) (by decide +kernel)) rfl
theorem ww_432 : (.methodLink "MemoryLink$Target" 148 ⟨"java/lang/Math", "min", "(II)I"⟩ : Cond) ∈ wU := xmU (List.mem_of_getElem? (i := 432) (by decide +kernel)) rfl
theorem ww_433 : (.static ⟨"java/lang/Math", "min", "(II)I"⟩ : Cond) ∈ wU := xmU (List.mem_of_getElem? (i := 433) (by decide +kernel)) rfl
theorem ww_434 : (.code ⟨"java/lang/Math", "min", "(II)I"⟩ prog_10_method_69_code 2 (some .int) : Cond) ∈ wU := xmU (List.mem_of_getElem? (i := 434) (by decide +kernel)) rfl
theorem ww_435 : (.methodLink "MemoryLink$Target" 151 ⟨"MemoryLink$Target", "addressOf", "(I)I"⟩ : Cond) ∈ wU := xmU (List.mem_of_getElem? (i := 435) (by decide +kernel)) rfl
theorem ww_437 : (.instanceMethod ⟨"MemoryLink$Target", "addressOf", "(I)I"⟩ : Cond) ∈ wU := xmU (List.mem_of_getElem? (i := 437) (by decide +kernel)) rfl
theorem ww_438 : (.code ⟨"MemoryLink$Target", "addressOf", "(I)I"⟩ prog_7_method_18_code 3 (some .int) : Cond) ∈ wU := xmU (List.mem_of_getElem? (i := 438) (by decide +kernel)) rfl
theorem ww_439 : (.methodLink "MemoryLink$Target" 154 ⟨"MemoryLink$Target", "store", "(II)V"⟩ : Cond) ∈ wU := xmU (List.mem_of_getElem? (i := 439) (by decide +kernel)) rfl
theorem ww_441 : (.instanceMethod ⟨"MemoryLink$Target", "store", "(II)V"⟩ : Cond) ∈ wU := xmU (List.mem_of_getElem? (i := 441) (by decide +kernel)) rfl
theorem ww_442 : (.code ⟨"MemoryLink$Target", "store", "(II)V"⟩ prog_7_method_19_code 3 none : Cond) ∈ wU := xmU (List.mem_of_getElem? (i := 442) (by decide +kernel)) rfl
theorem ww_443 : (.methodLink "MemoryLink$Target" 110 ⟨"MemoryLink$Target", "fillAnswer", "(I)V"⟩ : Cond) ∈ wU := xmU (List.mem_of_getElem? (i := 443) (by decide +kernel)) rfl
theorem ww_445 : (.instanceMethod ⟨"MemoryLink$Target", "fillAnswer", "(I)V"⟩ : Cond) ∈ wU := xmU (List.mem_of_getElem? (i := 445) (by decide +kernel)) rfl
theorem ww_446 : (.code ⟨"MemoryLink$Target", "fillAnswer", "(I)V"⟩ prog_7_method_21_code 4 none : Cond) ∈ wU := xmU (List.mem_of_getElem? (i := 446) (by decide +kernel)) rfl
theorem ww_447 : (.methodLink "MemoryLink$Target" 158 ⟨"MemoryLink$Target", "byteAt", "(I)I"⟩ : Cond) ∈ wU := xmU (List.mem_of_getElem? (i := 447) (by decide +kernel)) rfl
theorem ww_448 : (.instanceMethod ⟨"MemoryLink$Target", "byteAt", "(I)I"⟩ : Cond) ∈ wU := xmU (List.mem_of_getElem? (i := 448) (by decide +kernel)) rfl
theorem ww_449 : (.selects "MemoryLink$Target" ⟨"MemoryLink$Target", "byteAt", "(I)I"⟩ ⟨"MemoryLink$Target", "byteAt", "(I)I"⟩ : Cond) ∈ wU := xmU (List.mem_of_getElem? (i := 449) (by decide +kernel)) rfl
theorem ww_450 : (.code ⟨"MemoryLink$Target", "byteAt", "(I)I"⟩ prog_7_method_2_code 2 (some .int) : Cond) ∈ wU := xmU (List.mem_of_getElem? (i := 450) (by decide +kernel)) rfl
theorem ww_451 : (.methodLink "MemoryLink$Target" 116 ⟨"MemoryLink$Target", "changeBytes", "()V"⟩ : Cond) ∈ wU := xmU (List.mem_of_getElem? (i := 451) (by decide +kernel)) rfl
theorem ww_453 : (.instanceMethod ⟨"MemoryLink$Target", "changeBytes", "()V"⟩ : Cond) ∈ wU := xmU (List.mem_of_getElem? (i := 453) (by decide +kernel)) rfl
theorem ww_454 : (.code ⟨"MemoryLink$Target", "changeBytes", "()V"⟩ prog_7_method_22_code 5 none : Cond) ∈ wU := xmU (List.mem_of_getElem? (i := 454) (by decide +kernel)) rfl
theorem ww_455 : (.methodLink "MemoryLink$Target" 119 ⟨"MemoryLink$Target", "composeReply", "(I)V"⟩ : Cond) ∈ wU := xmU (List.mem_of_getElem? (i := 455) (by decide +kernel)) rfl
theorem ww_457 : (.instanceMethod ⟨"MemoryLink$Target", "composeReply", "(I)V"⟩ : Cond) ∈ wU := xmU (List.mem_of_getElem? (i := 457) (by decide +kernel)) rfl
theorem ww_458 : (.code ⟨"MemoryLink$Target", "composeReply", "(I)V"⟩ prog_7_method_23_code 2 none : Cond) ∈ wU := xmU (List.mem_of_getElem? (i := 458) (by decide +kernel)) rfl
theorem ww_459 : (.methodLink "MemoryLink$Target" 161 ⟨"MemoryLink$Target", "composeAnswer", "()V"⟩ : Cond) ∈ wU := xmU (List.mem_of_getElem? (i := 459) (by decide +kernel)) rfl
theorem ww_461 : (.instanceMethod ⟨"MemoryLink$Target", "composeAnswer", "()V"⟩ : Cond) ∈ wU := xmU (List.mem_of_getElem? (i := 461) (by decide +kernel)) rfl
theorem ww_462 : (.code ⟨"MemoryLink$Target", "composeAnswer", "()V"⟩ prog_7_method_24_code 2 none : Cond) ∈ wU := xmU (List.mem_of_getElem? (i := 462) (by decide +kernel)) rfl
theorem ww_463 : (.methodLink "MemoryLinkLaw" 31 ⟨"MemoryLink", "put", "(II)I"⟩ : Cond) ∈ wU := xmU (List.mem_of_getElem? (i := 463) (by decide +kernel)) rfl
theorem ww_464 : (.instanceMethod ⟨"MemoryLink", "put", "(II)I"⟩ : Cond) ∈ wU := xmU (List.mem_of_getElem? (i := 464) (by decide +kernel)) rfl
theorem ww_465 : (.selects "MemoryLink" ⟨"MemoryLink", "put", "(II)I"⟩ ⟨"MemoryLink", "put", "(II)I"⟩ : Cond) ∈ wU := xmU (List.mem_of_getElem? (i := 465) (by decide +kernel)) rfl
theorem ww_466 : (.code ⟨"MemoryLink", "put", "(II)I"⟩ prog_1_method_4_code 4 (some .int) : Cond) ∈ wU := xmU (List.mem_of_getElem? (i := 466) (by decide +kernel)) rfl
theorem ww_467 : (.methodLink "MemoryLink" 62 ⟨"MemoryLink$Outlet", "free", "()I"⟩ : Cond) ∈ wU := xmU (List.mem_of_getElem? (i := 467) (by decide +kernel)) rfl
theorem ww_468 : (.methodLink "MemoryLink" 68 ⟨"MemoryLink$Outlet", "accept", "(I)V"⟩ : Cond) ∈ wU := xmU (List.mem_of_getElem? (i := 468) (by decide +kernel)) rfl
theorem ww_469 : (.methodLink "MemoryLink" 71 ⟨"MemoryLink$Outlet", "size", "()I"⟩ : Cond) ∈ wU := xmU (List.mem_of_getElem? (i := 469) (by decide +kernel)) rfl
theorem ww_470 : (.methodLink "MemoryLinkLaw" 36 ⟨"MemoryLink", "command", "(IIIIIII)I"⟩ : Cond) ∈ wU := xmU (List.mem_of_getElem? (i := 470) (by decide +kernel)) rfl
theorem ww_471 : (.instanceMethod ⟨"MemoryLink", "command", "(IIIIIII)I"⟩ : Cond) ∈ wU := xmU (List.mem_of_getElem? (i := 471) (by decide +kernel)) rfl
theorem ww_472 : (.selects "MemoryLink" ⟨"MemoryLink", "command", "(IIIIIII)I"⟩ ⟨"MemoryLink", "command", "(IIIIIII)I"⟩ : Cond) ∈ wU := xmU (List.mem_of_getElem? (i := 472) (by decide +kernel)) rfl
theorem ww_473 : (.code ⟨"MemoryLink", "command", "(IIIIIII)I"⟩ prog_1_method_5_code 9 (some .int) : Cond) ∈ wU := xmU (List.mem_of_getElem? (i := 473) (by decide +kernel)) rfl
theorem ww_474 : (.methodLink "MemoryLink" 74 ⟨"MemoryLink", "isByte", "(I)Z"⟩ : Cond) ∈ wU := xmU (List.mem_of_getElem? (i := 474) (by decide +kernel)) rfl
theorem ww_475 : (.static ⟨"MemoryLink", "isByte", "(I)Z"⟩ : Cond) ∈ wU := xmU (List.mem_of_getElem? (i := 475) (by decide +kernel)) rfl
theorem ww_476 : (.code ⟨"MemoryLink", "isByte", "(I)Z"⟩ prog_1_method_14_code 1 (some .boolean) : Cond) ∈ wU := xmU (List.mem_of_getElem? (i := 476) (by decide +kernel)) rfl
theorem ww_477 : (.constant "MemoryLink" 77 65535 : Cond) ∈ wU := xmU (List.mem_of_getElem? (i := 477) (by decide +kernel)) rfl
theorem ww_478 : (.methodLink "MemoryLink" 78 ⟨"MemoryLink$Packet", "clear", "()V"⟩ : Cond) ∈ wU := xmU (List.mem_of_getElem? (i := 478) (by decide +kernel)) rfl
theorem ww_479 : (.methodLink "MemoryLink" 81 ⟨"MemoryLink", "draftHead", "(IIIIII)V"⟩ : Cond) ∈ wU := xmU (List.mem_of_getElem? (i := 479) (by decide +kernel)) rfl
theorem ww_481 : (.instanceMethod ⟨"MemoryLink", "draftHead", "(IIIIII)V"⟩ : Cond) ∈ wU := xmU (List.mem_of_getElem? (i := 481) (by decide +kernel)) rfl
theorem ww_482 : (.code ⟨"MemoryLink", "draftHead", "(IIIIII)V"⟩ prog_1_method_18_code 8 none : Cond) ∈ wU := xmU (List.mem_of_getElem? (i := 482) (by decide +kernel)) rfl
theorem ww_483 : (.methodLink "MemoryLink" 89 ⟨"MemoryLink$Packet", "add", "(I)V"⟩ : Cond) ∈ wU := xmU (List.mem_of_getElem? (i := 483) (by decide +kernel)) rfl
theorem ww_484 : (.methodLink "MemoryLink" 150 ⟨"MemoryLink$Packet", "check", "(II)I"⟩ : Cond) ∈ wU := xmU (List.mem_of_getElem? (i := 484) (by decide +kernel)) rfl
theorem ww_485 : (.methodLink "MemoryLink" 85 ⟨"MemoryLink", "draftData", "(III)V"⟩ : Cond) ∈ wU := xmU (List.mem_of_getElem? (i := 485) (by decide +kernel)) rfl
theorem ww_487 : (.instanceMethod ⟨"MemoryLink", "draftData", "(III)V"⟩ : Cond) ∈ wU := xmU (List.mem_of_getElem? (i := 487) (by decide +kernel)) rfl
theorem ww_488 : (.code ⟨"MemoryLink", "draftData", "(III)V"⟩ prog_1_method_19_code 5 none : Cond) ∈ wU := xmU (List.mem_of_getElem? (i := 488) (by decide +kernel)) rfl
theorem ww_489 : (.methodLink "MemoryLink" 98 ⟨"MemoryLink$Outlet", "acceptAll", "(LMemoryLink$Packet;)V"⟩ : Cond) ∈ wU := xmU (List.mem_of_getElem? (i := 489) (by decide +kernel)) rfl
theorem ww_490 : (.methodLink "MemoryLinkLaw" 41 ⟨"MemoryLink", "take", "(I)I"⟩ : Cond) ∈ wU := xmU (List.mem_of_getElem? (i := 490) (by decide +kernel)) rfl
theorem ww_491 : (.instanceMethod ⟨"MemoryLink", "take", "(I)I"⟩ : Cond) ∈ wU := xmU (List.mem_of_getElem? (i := 491) (by decide +kernel)) rfl
theorem ww_492 : (.selects "MemoryLink" ⟨"MemoryLink", "take", "(I)I"⟩ ⟨"MemoryLink", "take", "(I)I"⟩ : Cond) ∈ wU := xmU (List.mem_of_getElem? (i := 492) (by decide +kernel)) rfl
theorem ww_493 : (.code ⟨"MemoryLink", "take", "(I)I"⟩ prog_1_method_6_code 2 (some .int) : Cond) ∈ wU := xmU (List.mem_of_getElem? (i := 493) (by decide +kernel)) rfl
theorem ww_494 : (.methodLink "MemoryLink" 106 ⟨"MemoryLink$Inlet", "removeFirst", "()I"⟩ : Cond) ∈ wU := xmU (List.mem_of_getElem? (i := 494) (by decide +kernel)) rfl
theorem ww_495 : (.methodLink "MemoryLinkLaw" 45 ⟨"MemoryLink", "sendTime", "(II)Z"⟩ : Cond) ∈ wU := xmU (List.mem_of_getElem? (i := 495) (by decide +kernel)) rfl
theorem ww_496 : (.instanceMethod ⟨"MemoryLink", "sendTime", "(II)Z"⟩ : Cond) ∈ wU := xmU (List.mem_of_getElem? (i := 496) (by decide +kernel)) rfl
theorem ww_497 : (.selects "MemoryLink" ⟨"MemoryLink", "sendTime", "(II)Z"⟩ ⟨"MemoryLink", "sendTime", "(II)Z"⟩ : Cond) ∈ wU := xmU (List.mem_of_getElem? (i := 497) (by decide +kernel)) rfl
theorem ww_498 : (.code ⟨"MemoryLink", "sendTime", "(II)Z"⟩ prog_1_method_7_code 3 (some .boolean) : Cond) ∈ wU := xmU (List.mem_of_getElem? (i := 498) (by decide +kernel)) rfl
theorem ww_499 : (.methodLink "MemoryLinkLaw" 50 ⟨"MemoryLink", "spoil", "(I)Z"⟩ : Cond) ∈ wU := xmU (List.mem_of_getElem? (i := 499) (by decide +kernel)) rfl
theorem ww_500 : (.instanceMethod ⟨"MemoryLink", "spoil", "(I)Z"⟩ : Cond) ∈ wU := xmU (List.mem_of_getElem? (i := 500) (by decide +kernel)) rfl
theorem ww_501 : (.selects "MemoryLink" ⟨"MemoryLink", "spoil", "(I)Z"⟩ ⟨"MemoryLink", "spoil", "(I)Z"⟩ : Cond) ∈ wU := xmU (List.mem_of_getElem? (i := 501) (by decide +kernel)) rfl
theorem ww_502 : (.code ⟨"MemoryLink", "spoil", "(I)Z"⟩ prog_1_method_8_code 2 (some .boolean) : Cond) ∈ wU := xmU (List.mem_of_getElem? (i := 502) (by decide +kernel)) rfl
theorem ww_503 : (.methodLink "MemoryLinkLaw" 55 ⟨"MemoryLink", "look", "(II)I"⟩ : Cond) ∈ wU := xmU (List.mem_of_getElem? (i := 503) (by decide +kernel)) rfl
theorem ww_504 : (.instanceMethod ⟨"MemoryLink", "look", "(II)I"⟩ : Cond) ∈ wU := xmU (List.mem_of_getElem? (i := 504) (by decide +kernel)) rfl
theorem ww_505 : (.selects "MemoryLink" ⟨"MemoryLink", "look", "(II)I"⟩ ⟨"MemoryLink", "look", "(II)I"⟩ : Cond) ∈ wU := xmU (List.mem_of_getElem? (i := 505) (by decide +kernel)) rfl
theorem ww_506 : (.code ⟨"MemoryLink", "look", "(II)I"⟩ prog_1_method_9_code 3 (some .int) : Cond) ∈ wU := xmU (List.mem_of_getElem? (i := 506) (by decide +kernel)) rfl
theorem ww_507 : (.methodLink "MemoryLink" 117 ⟨"MemoryLink$End", "report", "(I)I"⟩ : Cond) ∈ wU := xmU (List.mem_of_getElem? (i := 507) (by decide +kernel)) rfl
theorem ww_508 : (.instanceMethod ⟨"MemoryLink$End", "report", "(I)I"⟩ : Cond) ∈ wU := xmU (List.mem_of_getElem? (i := 508) (by decide +kernel)) rfl
theorem ww_509 : (.selects "MemoryLink$End" ⟨"MemoryLink$End", "report", "(I)I"⟩ ⟨"MemoryLink$End", "report", "(I)I"⟩ : Cond) ∈ wU := xmU (List.mem_of_getElem? (i := 509) (by decide +kernel)) rfl
theorem ww_510 : (.code ⟨"MemoryLink$End", "report", "(I)I"⟩ prog_2_method_18_code 2 (some .int) : Cond) ∈ wU := xmU (List.mem_of_getElem? (i := 510) (by decide +kernel)) rfl
theorem ww_511 : (.methodLink "MemoryLinkLaw" 59 ⟨"MemoryLink", "memory", "(I)I"⟩ : Cond) ∈ wU := xmU (List.mem_of_getElem? (i := 511) (by decide +kernel)) rfl
theorem ww_512 : (.instanceMethod ⟨"MemoryLink", "memory", "(I)I"⟩ : Cond) ∈ wU := xmU (List.mem_of_getElem? (i := 512) (by decide +kernel)) rfl
theorem ww_513 : (.selects "MemoryLink" ⟨"MemoryLink", "memory", "(I)I"⟩ ⟨"MemoryLink", "memory", "(I)I"⟩ : Cond) ∈ wU := xmU (List.mem_of_getElem? (i := 513) (by decide +kernel)) rfl
theorem ww_514 : (.code ⟨"MemoryLink", "memory", "(I)I"⟩ prog_1_method_10_code 2 (some .int) : Cond) ∈ wU := xmU (List.mem_of_getElem? (i := 514) (by decide +kernel)) rfl
theorem ww_515 : (.methodLink "MemoryLink" 121 ⟨"MemoryLink$Target", "byteAt", "(I)I"⟩ : Cond) ∈ wU := xmU (List.mem_of_getElem? (i := 515) (by decide +kernel)) rfl
theorem ww_516 : (.methodLink "MemoryLinkLaw" 63 ⟨"MemoryLink", "commands", "()I"⟩ : Cond) ∈ wU := xmU (List.mem_of_getElem? (i := 516) (by decide +kernel)) rfl
theorem ww_517 : (.instanceMethod ⟨"MemoryLink", "commands", "()I"⟩ : Cond) ∈ wU := xmU (List.mem_of_getElem? (i := 517) (by decide +kernel)) rfl
theorem ww_518 : (.selects "MemoryLink" ⟨"MemoryLink", "commands", "()I"⟩ ⟨"MemoryLink", "commands", "()I"⟩ : Cond) ∈ wU := xmU (List.mem_of_getElem? (i := 518) (by decide +kernel)) rfl
theorem ww_519 : (.code ⟨"MemoryLink", "commands", "()I"⟩ prog_1_method_11_code 1 (some .int) : Cond) ∈ wU := xmU (List.mem_of_getElem? (i := 519) (by decide +kernel)) rfl
theorem ww_520 : (.methodLink "MemoryLinkLaw" 68 ⟨"MemoryLink", "status", "()I"⟩ : Cond) ∈ wU := xmU (List.mem_of_getElem? (i := 520) (by decide +kernel)) rfl
theorem ww_521 : (.instanceMethod ⟨"MemoryLink", "status", "()I"⟩ : Cond) ∈ wU := xmU (List.mem_of_getElem? (i := 521) (by decide +kernel)) rfl
theorem ww_522 : (.selects "MemoryLink" ⟨"MemoryLink", "status", "()I"⟩ ⟨"MemoryLink", "status", "()I"⟩ : Cond) ∈ wU := xmU (List.mem_of_getElem? (i := 522) (by decide +kernel)) rfl
theorem ww_523 : (.code ⟨"MemoryLink", "status", "()I"⟩ prog_1_method_12_code 1 (some .int) : Cond) ∈ wU := xmU (List.mem_of_getElem? (i := 523) (by decide +kernel)) rfl
theorem ww_524 : (.methodLink "MemoryLinkLaw" 9 ⟨"MemoryLinkLaw", "cell", "([II)I"⟩ : Cond) ∈ wU := xmU (List.mem_of_getElem? (i := 524) (by decide +kernel)) rfl
theorem ww_525 : (.static ⟨"MemoryLinkLaw", "cell", "([II)I"⟩ : Cond) ∈ wU := xmU (List.mem_of_getElem? (i := 525) (by decide +kernel)) rfl
theorem ww_526 : (.code ⟨"MemoryLinkLaw", "cell", "([II)I"⟩ method_2_code 2 (some .int) : Cond) ∈ wU := xmU (List.mem_of_getElem? (i := 526) (by decide +kernel)) rfl
theorem ww_527 : (.classLink "MemoryLinkLaw" 18 "MemoryLinkModel" : Cond) ∈ wU := xmU (List.mem_of_getElem? (i := 527) (by decide +kernel)) rfl
theorem ww_528 : (.instantiable "MemoryLinkModel" 28 : Cond) ∈ wU := xmU (List.mem_of_getElem? (i := 528) (by decide +kernel)) rfl
theorem ww_529 : (.methodLink "MemoryLinkLaw" 20 ⟨"MemoryLinkModel", "<init>", "(I)V"⟩ : Cond) ∈ wU := xmU (List.mem_of_getElem? (i := 529) (by decide +kernel)) rfl
theorem ww_530 : (.instanceMethod ⟨"MemoryLinkModel", "<init>", "(I)V"⟩ : Cond) ∈ wU := xmU (List.mem_of_getElem? (i := 530) (by decide +kernel)) rfl
theorem ww_531 : (.code ⟨"MemoryLinkModel", "<init>", "(I)V"⟩ prog_9_method_1_code 3 none : Cond) ∈ wU := xmU (List.mem_of_getElem? (i := 531) (by decide +kernel)) rfl
theorem ww_532 : (.methodLink "MemoryLinkModel" 1 ⟨"java/lang/Object", "<init>", "()V"⟩ : Cond) ∈ wU := xmU (List.mem_of_getElem? (i := 532) (by decide +kernel)) rfl
theorem ww_533 : (.fieldLink "MemoryLinkModel" 84 "MemoryLinkModel" "target" "Z" : Cond) ∈ wU := xmU (List.mem_of_getElem? (i := 533) (by decide +kernel)) rfl
theorem ww_534 : (.fieldLink "MemoryLinkModel" 7 "MemoryLinkModel" "state" "[I" : Cond) ∈ wU := xmU (List.mem_of_getElem? (i := 534) (by decide +kernel)) rfl
theorem ww_535 : (.fieldLink "MemoryLinkModel" 13 "MemoryLinkModel" "clock" "[I" : Cond) ∈ wU := xmU (List.mem_of_getElem? (i := 535) (by decide +kernel)) rfl
theorem ww_536 : (.fieldLink "MemoryLinkModel" 16 "MemoryLinkModel" "enabled" "[Z" : Cond) ∈ wU := xmU (List.mem_of_getElem? (i := 536) (by decide +kernel)) rfl
theorem ww_537 : (.fieldLink "MemoryLinkModel" 20 "MemoryLinkModel" "auto" "[Z" : Cond) ∈ wU := xmU (List.mem_of_getElem? (i := 537) (by decide +kernel)) rfl
theorem ww_538 : (.fieldLink "MemoryLinkModel" 23 "MemoryLinkModel" "heard" "[Z" : Cond) ∈ wU := xmU (List.mem_of_getElem? (i := 538) (by decide +kernel)) rfl
theorem ww_539 : (.fieldLink "MemoryLinkModel" 26 "MemoryLinkModel" "quiet" "[Z" : Cond) ∈ wU := xmU (List.mem_of_getElem? (i := 539) (by decide +kernel)) rfl
theorem ww_540 : (.fieldLink "MemoryLinkModel" 29 "MemoryLinkModel" "loan" "[I" : Cond) ∈ wU := xmU (List.mem_of_getElem? (i := 540) (by decide +kernel)) rfl
theorem ww_541 : (.fieldLink "MemoryLinkModel" 32 "MemoryLinkModel" "owed" "[I" : Cond) ∈ wU := xmU (List.mem_of_getElem? (i := 541) (by decide +kernel)) rfl
theorem ww_542 : (.fieldLink "MemoryLinkModel" 35 "MemoryLinkModel" "falls" "[I" : Cond) ∈ wU := xmU (List.mem_of_getElem? (i := 542) (by decide +kernel)) rfl
theorem ww_543 : (.fieldLink "MemoryLinkModel" 38 "MemoryLinkModel" "times" "[I" : Cond) ∈ wU := xmU (List.mem_of_getElem? (i := 543) (by decide +kernel)) rfl
theorem ww_544 : (.fieldLink "MemoryLinkModel" 41 "MemoryLinkModel" "goods" "[I" : Cond) ∈ wU := xmU (List.mem_of_getElem? (i := 544) (by decide +kernel)) rfl
theorem ww_545 : (.fieldLink "MemoryLinkModel" 44 "MemoryLinkModel" "asked" "[I" : Cond) ∈ wU := xmU (List.mem_of_getElem? (i := 545) (by decide +kernel)) rfl
theorem ww_546 : (.fieldLink "MemoryLinkModel" 47 "MemoryLinkModel" "spoiling" "[Z" : Cond) ∈ wU := xmU (List.mem_of_getElem? (i := 546) (by decide +kernel)) rfl
theorem ww_547 : (.fieldLink "MemoryLinkModel" 50 "MemoryLinkModel" "sent" "[I" : Cond) ∈ wU := xmU (List.mem_of_getElem? (i := 547) (by decide +kernel)) rfl
theorem ww_548 : (.fieldLink "MemoryLinkModel" 53 "MemoryLinkModel" "spoiled" "[Z" : Cond) ∈ wU := xmU (List.mem_of_getElem? (i := 548) (by decide +kernel)) rfl
theorem ww_549 : (.fieldLink "MemoryLinkModel" 56 "MemoryLinkModel" "rows" "[I" : Cond) ∈ wU := xmU (List.mem_of_getElem? (i := 549) (by decide +kernel)) rfl
theorem ww_550 : (.fieldLink "MemoryLinkModel" 59 "MemoryLinkModel" "sizes" "[I" : Cond) ∈ wU := xmU (List.mem_of_getElem? (i := 550) (by decide +kernel)) rfl
theorem ww_551 : (.fieldLink "MemoryLinkModel" 62 "MemoryLinkModel" "open" "[Z" : Cond) ∈ wU := xmU (List.mem_of_getElem? (i := 551) (by decide +kernel)) rfl
theorem ww_552 : (.fieldLink "MemoryLinkModel" 65 "MemoryLinkModel" "throwing" "[Z" : Cond) ∈ wU := xmU (List.mem_of_getElem? (i := 552) (by decide +kernel)) rfl
theorem ww_553 : (.fieldLink "MemoryLinkModel" 68 "MemoryLinkModel" "memory" "[I" : Cond) ∈ wU := xmU (List.mem_of_getElem? (i := 553) (by decide +kernel)) rfl
theorem ww_554 : (.fieldLink "MemoryLinkModel" 71 "MemoryLinkModel" "packet" "[I" : Cond) ∈ wU := xmU (List.mem_of_getElem? (i := 554) (by decide +kernel)) rfl
theorem ww_555 : (.fieldLink "MemoryLinkModel" 127 "MemoryLinkModel" "count" "I" : Cond) ∈ wU := xmU (List.mem_of_getElem? (i := 555) (by decide +kernel)) rfl
theorem ww_556 : (.fieldLink "MemoryLinkModel" 148 "MemoryLinkModel" "commands" "I" : Cond) ∈ wU := xmU (List.mem_of_getElem? (i := 556) (by decide +kernel)) rfl
theorem ww_557 : (.fieldLink "MemoryLinkModel" 74 "MemoryLinkModel" "status" "I" : Cond) ∈ wU := xmU (List.mem_of_getElem? (i := 557) (by decide +kernel)) rfl
theorem ww_558 : (.fieldLink "MemoryLinkModel" 78 "MemoryLinkModel" "reply" "[I" : Cond) ∈ wU := xmU (List.mem_of_getElem? (i := 558) (by decide +kernel)) rfl
theorem ww_559 : (.fieldLink "MemoryLinkModel" 142 "MemoryLinkModel" "replies" "I" : Cond) ∈ wU := xmU (List.mem_of_getElem? (i := 559) (by decide +kernel)) rfl
theorem ww_560 : (.fieldLink "MemoryLinkModel" 81 "MemoryLinkModel" "draft" "[I" : Cond) ∈ wU := xmU (List.mem_of_getElem? (i := 560) (by decide +kernel)) rfl
theorem ww_561 : (.laysFinal "MemoryLinkModel" "MemoryLinkModel" "target" "Z" : Cond) ∈ wU := xmU (List.mem_of_getElem? (i := 561) (by decide +kernel)) rfl
theorem ww_562 : (.soleField "MemoryLinkModel" "target" : Cond) ∈ wU := xmU (List.mem_of_getElem? (i := 562) (by decide +kernel)) rfl
theorem ww_563 : (.laysFinal "MemoryLinkModel" "MemoryLinkModel" "state" "[I" : Cond) ∈ wU := xmU (List.mem_of_getElem? (i := 563) (by decide +kernel)) rfl
theorem ww_564 : (.soleField "MemoryLinkModel" "state" : Cond) ∈ wU := xmU (List.mem_of_getElem? (i := 564) (by decide +kernel)) rfl
theorem ww_565 : (.laysFinal "MemoryLinkModel" "MemoryLinkModel" "clock" "[I" : Cond) ∈ wU := xmU (List.mem_of_getElem? (i := 565) (by decide +kernel)) rfl
theorem ww_566 : (.soleField "MemoryLinkModel" "clock" : Cond) ∈ wU := xmU (List.mem_of_getElem? (i := 566) (by decide +kernel)) rfl
theorem ww_567 : (.laysFinal "MemoryLinkModel" "MemoryLinkModel" "enabled" "[Z" : Cond) ∈ wU := xmU (List.mem_of_getElem? (i := 567) (by decide +kernel)) rfl
theorem ww_568 : (.soleField "MemoryLinkModel" "enabled" : Cond) ∈ wU := xmU (List.mem_of_getElem? (i := 568) (by decide +kernel)) rfl
theorem ww_569 : (.laysFinal "MemoryLinkModel" "MemoryLinkModel" "auto" "[Z" : Cond) ∈ wU := xmU (List.mem_of_getElem? (i := 569) (by decide +kernel)) rfl
theorem ww_570 : (.soleField "MemoryLinkModel" "auto" : Cond) ∈ wU := xmU (List.mem_of_getElem? (i := 570) (by decide +kernel)) rfl
theorem ww_571 : (.laysFinal "MemoryLinkModel" "MemoryLinkModel" "heard" "[Z" : Cond) ∈ wU := xmU (List.mem_of_getElem? (i := 571) (by decide +kernel)) rfl
theorem ww_572 : (.soleField "MemoryLinkModel" "heard" : Cond) ∈ wU := xmU (List.mem_of_getElem? (i := 572) (by decide +kernel)) rfl
theorem ww_573 : (.laysFinal "MemoryLinkModel" "MemoryLinkModel" "quiet" "[Z" : Cond) ∈ wU := xmU (List.mem_of_getElem? (i := 573) (by decide +kernel)) rfl
theorem ww_574 : (.soleField "MemoryLinkModel" "quiet" : Cond) ∈ wU := xmU (List.mem_of_getElem? (i := 574) (by decide +kernel)) rfl
theorem ww_575 : (.laysFinal "MemoryLinkModel" "MemoryLinkModel" "loan" "[I" : Cond) ∈ wU := xmU (List.mem_of_getElem? (i := 575) (by decide +kernel)) rfl
theorem ww_576 : (.soleField "MemoryLinkModel" "loan" : Cond) ∈ wU := xmU (List.mem_of_getElem? (i := 576) (by decide +kernel)) rfl
theorem ww_577 : (.laysFinal "MemoryLinkModel" "MemoryLinkModel" "owed" "[I" : Cond) ∈ wU := xmU (List.mem_of_getElem? (i := 577) (by decide +kernel)) rfl
theorem ww_578 : (.soleField "MemoryLinkModel" "owed" : Cond) ∈ wU := xmU (List.mem_of_getElem? (i := 578) (by decide +kernel)) rfl
theorem ww_579 : (.laysFinal "MemoryLinkModel" "MemoryLinkModel" "falls" "[I" : Cond) ∈ wU := xmU (List.mem_of_getElem? (i := 579) (by decide +kernel)) rfl
theorem ww_580 : (.soleField "MemoryLinkModel" "falls" : Cond) ∈ wU := xmU (List.mem_of_getElem? (i := 580) (by decide +kernel)) rfl
theorem ww_581 : (.laysFinal "MemoryLinkModel" "MemoryLinkModel" "times" "[I" : Cond) ∈ wU := xmU (List.mem_of_getElem? (i := 581) (by decide +kernel)) rfl
theorem ww_582 : (.soleField "MemoryLinkModel" "times" : Cond) ∈ wU := xmU (List.mem_of_getElem? (i := 582) (by decide +kernel)) rfl
theorem ww_583 : (.laysFinal "MemoryLinkModel" "MemoryLinkModel" "goods" "[I" : Cond) ∈ wU := xmU (List.mem_of_getElem? (i := 583) (by decide +kernel)) rfl
theorem ww_584 : (.soleField "MemoryLinkModel" "goods" : Cond) ∈ wU := xmU (List.mem_of_getElem? (i := 584) (by decide +kernel)) rfl
theorem ww_585 : (.laysFinal "MemoryLinkModel" "MemoryLinkModel" "asked" "[I" : Cond) ∈ wU := xmU (List.mem_of_getElem? (i := 585) (by decide +kernel)) rfl
theorem ww_586 : (.soleField "MemoryLinkModel" "asked" : Cond) ∈ wU := xmU (List.mem_of_getElem? (i := 586) (by decide +kernel)) rfl
theorem ww_587 : (.laysFinal "MemoryLinkModel" "MemoryLinkModel" "spoiling" "[Z" : Cond) ∈ wU := xmU (List.mem_of_getElem? (i := 587) (by decide +kernel)) rfl
theorem ww_588 : (.soleField "MemoryLinkModel" "spoiling" : Cond) ∈ wU := xmU (List.mem_of_getElem? (i := 588) (by decide +kernel)) rfl
theorem ww_589 : (.laysFinal "MemoryLinkModel" "MemoryLinkModel" "sent" "[I" : Cond) ∈ wU := xmU (List.mem_of_getElem? (i := 589) (by decide +kernel)) rfl
theorem ww_590 : (.soleField "MemoryLinkModel" "sent" : Cond) ∈ wU := xmU (List.mem_of_getElem? (i := 590) (by decide +kernel)) rfl
theorem ww_591 : (.laysFinal "MemoryLinkModel" "MemoryLinkModel" "spoiled" "[Z" : Cond) ∈ wU := xmU (List.mem_of_getElem? (i := 591) (by decide +kernel)) rfl
theorem ww_592 : (.soleField "MemoryLinkModel" "spoiled" : Cond) ∈ wU := xmU (List.mem_of_getElem? (i := 592) (by decide +kernel)) rfl
theorem ww_593 : (.laysFinal "MemoryLinkModel" "MemoryLinkModel" "rows" "[I" : Cond) ∈ wU := xmU (List.mem_of_getElem? (i := 593) (by decide +kernel)) rfl
theorem ww_594 : (.soleField "MemoryLinkModel" "rows" : Cond) ∈ wU := xmU (List.mem_of_getElem? (i := 594) (by decide +kernel)) rfl
theorem ww_595 : (.laysFinal "MemoryLinkModel" "MemoryLinkModel" "sizes" "[I" : Cond) ∈ wU := xmU (List.mem_of_getElem? (i := 595) (by decide +kernel)) rfl
theorem ww_596 : (.soleField "MemoryLinkModel" "sizes" : Cond) ∈ wU := xmU (List.mem_of_getElem? (i := 596) (by decide +kernel)) rfl
theorem ww_597 : (.laysFinal "MemoryLinkModel" "MemoryLinkModel" "open" "[Z" : Cond) ∈ wU := xmU (List.mem_of_getElem? (i := 597) (by decide +kernel)) rfl
theorem ww_598 : (.soleField "MemoryLinkModel" "open" : Cond) ∈ wU := xmU (List.mem_of_getElem? (i := 598) (by decide +kernel)) rfl
theorem ww_599 : (.laysFinal "MemoryLinkModel" "MemoryLinkModel" "throwing" "[Z" : Cond) ∈ wU := xmU (List.mem_of_getElem? (i := 599) (by decide +kernel)) rfl
theorem ww_600 : (.soleField "MemoryLinkModel" "throwing" : Cond) ∈ wU := xmU (List.mem_of_getElem? (i := 600) (by decide +kernel)) rfl
theorem ww_601 : (.laysFinal "MemoryLinkModel" "MemoryLinkModel" "memory" "[I" : Cond) ∈ wU := xmU (List.mem_of_getElem? (i := 601) (by decide +kernel)) rfl
theorem ww_602 : (.soleField "MemoryLinkModel" "memory" : Cond) ∈ wU := xmU (List.mem_of_getElem? (i := 602) (by decide +kernel)) rfl
theorem ww_603 : (.laysFinal "MemoryLinkModel" "MemoryLinkModel" "packet" "[I" : Cond) ∈ wU := xmU (List.mem_of_getElem? (i := 603) (by decide +kernel)) rfl
theorem ww_604 : (.soleField "MemoryLinkModel" "packet" : Cond) ∈ wU := xmU (List.mem_of_getElem? (i := 604) (by decide +kernel)) rfl
theorem ww_605 : (.lays "MemoryLinkModel" "MemoryLinkModel" "count" "I" : Cond) ∈ wU := xmU (List.mem_of_getElem? (i := 605) (by decide +kernel)) rfl
theorem ww_606 : (.soleField "MemoryLinkModel" "count" : Cond) ∈ wU := xmU (List.mem_of_getElem? (i := 606) (by decide +kernel)) rfl
theorem ww_607 : (.lays "MemoryLinkModel" "MemoryLinkModel" "commands" "I" : Cond) ∈ wU := xmU (List.mem_of_getElem? (i := 607) (by decide +kernel)) rfl
theorem ww_608 : (.soleField "MemoryLinkModel" "commands" : Cond) ∈ wU := xmU (List.mem_of_getElem? (i := 608) (by decide +kernel)) rfl
theorem ww_609 : (.lays "MemoryLinkModel" "MemoryLinkModel" "status" "I" : Cond) ∈ wU := xmU (List.mem_of_getElem? (i := 609) (by decide +kernel)) rfl
theorem ww_610 : (.soleField "MemoryLinkModel" "status" : Cond) ∈ wU := xmU (List.mem_of_getElem? (i := 610) (by decide +kernel)) rfl
theorem ww_611 : (.laysFinal "MemoryLinkModel" "MemoryLinkModel" "reply" "[I" : Cond) ∈ wU := xmU (List.mem_of_getElem? (i := 611) (by decide +kernel)) rfl
theorem ww_612 : (.soleField "MemoryLinkModel" "reply" : Cond) ∈ wU := xmU (List.mem_of_getElem? (i := 612) (by decide +kernel)) rfl
theorem ww_613 : (.lays "MemoryLinkModel" "MemoryLinkModel" "replies" "I" : Cond) ∈ wU := xmU (List.mem_of_getElem? (i := 613) (by decide +kernel)) rfl
theorem ww_614 : (.soleField "MemoryLinkModel" "replies" : Cond) ∈ wU := xmU (List.mem_of_getElem? (i := 614) (by decide +kernel)) rfl
theorem ww_615 : (.laysFinal "MemoryLinkModel" "MemoryLinkModel" "draft" "[I" : Cond) ∈ wU := xmU (List.mem_of_getElem? (i := 615) (by decide +kernel)) rfl
theorem ww_616 : (.soleField "MemoryLinkModel" "draft" : Cond) ∈ wU := xmU (List.mem_of_getElem? (i := 616) (by decide +kernel)) rfl
theorem ww_617 : (.superclass "MemoryLinkModel" "java/lang/Object" : Cond) ∈ wU := xmU (List.mem_of_getElem? (i := 617) (by decide +kernel)) rfl
theorem ww_618 : (.arrayClass .boolean : Cond) ∈ wU := xmU (List.mem_of_getElem? (i := 618) (by decide +kernel)) rfl
theorem ww_619 : (.methodLink "MemoryLinkLaw" 30 ⟨"MemoryLinkModel", "run", "(I)I"⟩ : Cond) ∈ wU := xmU (List.mem_of_getElem? (i := 619) (by decide +kernel)) rfl
theorem ww_620 : (.instanceMethod ⟨"MemoryLinkModel", "run", "(I)I"⟩ : Cond) ∈ wU := xmU (List.mem_of_getElem? (i := 620) (by decide +kernel)) rfl
theorem ww_621 : (.selects "MemoryLinkModel" ⟨"MemoryLinkModel", "run", "(I)I"⟩ ⟨"MemoryLinkModel", "run", "(I)I"⟩ : Cond) ∈ wU := xmU (List.mem_of_getElem? (i := 621) (by decide +kernel)) rfl
theorem ww_622 : (.code ⟨"MemoryLinkModel", "run", "(I)I"⟩ prog_9_method_13_code 3 (some .int) : Cond) ∈ wU := xmU (List.mem_of_getElem? (i := 622) (by decide +kernel)) rfl
theorem ww_623 : (.methodLink "MemoryLinkModel" 120 ⟨"MemoryLinkModel", "tick", "()V"⟩ : Cond) ∈ wU := xmU (List.mem_of_getElem? (i := 623) (by decide +kernel)) rfl
theorem ww_625 : (.instanceMethod ⟨"MemoryLinkModel", "tick", "()V"⟩ : Cond) ∈ wU := xmU (List.mem_of_getElem? (i := 625) (by decide +kernel)) rfl
theorem ww_626 : (.code ⟨"MemoryLinkModel", "tick", "()V"⟩ prog_9_method_12_code 3 none : Cond) ∈ wU := xmU (List.mem_of_getElem? (i := 626) (by decide +kernel)) rfl
theorem ww_627 : (.methodLink "MemoryLinkModel" 103 ⟨"MemoryLinkModel", "arrival", "(IIZ)Z"⟩ : Cond) ∈ wU := xmU (List.mem_of_getElem? (i := 627) (by decide +kernel)) rfl
theorem ww_629 : (.instanceMethod ⟨"MemoryLinkModel", "arrival", "(IIZ)Z"⟩ : Cond) ∈ wU := xmU (List.mem_of_getElem? (i := 629) (by decide +kernel)) rfl
theorem ww_630 : (.code ⟨"MemoryLinkModel", "arrival", "(IIZ)Z"⟩ prog_9_method_6_code 8 (some .boolean) : Cond) ∈ wU := xmU (List.mem_of_getElem? (i := 630) (by decide +kernel)) rfl
theorem ww_631 : (.methodLink "MemoryLinkModel" 88 ⟨"MemoryLinkModel", "add", "(II)V"⟩ : Cond) ∈ wU := xmU (List.mem_of_getElem? (i := 631) (by decide +kernel)) rfl
theorem ww_633 : (.instanceMethod ⟨"MemoryLinkModel", "add", "(II)V"⟩ : Cond) ∈ wU := xmU (List.mem_of_getElem? (i := 633) (by decide +kernel)) rfl
theorem ww_634 : (.code ⟨"MemoryLinkModel", "add", "(II)V"⟩ prog_9_method_3_code 3 none : Cond) ∈ wU := xmU (List.mem_of_getElem? (i := 634) (by decide +kernel)) rfl
theorem ww_635 : (.methodLink "MemoryLinkModel" 107 ⟨"MemoryLinkModel", "late", "(I)Z"⟩ : Cond) ∈ wU := xmU (List.mem_of_getElem? (i := 635) (by decide +kernel)) rfl
theorem ww_637 : (.instanceMethod ⟨"MemoryLinkModel", "late", "(I)Z"⟩ : Cond) ∈ wU := xmU (List.mem_of_getElem? (i := 637) (by decide +kernel)) rfl
theorem ww_638 : (.code ⟨"MemoryLinkModel", "late", "(I)Z"⟩ prog_9_method_8_code 5 (some .boolean) : Cond) ∈ wU := xmU (List.mem_of_getElem? (i := 638) (by decide +kernel)) rfl
theorem ww_639 : (.methodLink "MemoryLinkModel" 110 ⟨"MemoryLinkModel", "fall", "(I)V"⟩ : Cond) ∈ wU := xmU (List.mem_of_getElem? (i := 639) (by decide +kernel)) rfl
theorem ww_641 : (.instanceMethod ⟨"MemoryLinkModel", "fall", "(I)V"⟩ : Cond) ∈ wU := xmU (List.mem_of_getElem? (i := 641) (by decide +kernel)) rfl
theorem ww_642 : (.code ⟨"MemoryLinkModel", "fall", "(I)V"⟩ prog_9_method_7_code 3 none : Cond) ∈ wU := xmU (List.mem_of_getElem? (i := 642) (by decide +kernel)) rfl
theorem ww_643 : (.methodLink "MemoryLinkModel" 92 ⟨"MemoryLinkModel", "remove", "(I)I"⟩ : Cond) ∈ wU := xmU (List.mem_of_getElem? (i := 643) (by decide +kernel)) rfl
theorem ww_645 : (.instanceMethod ⟨"MemoryLinkModel", "remove", "(I)I"⟩ : Cond) ∈ wU := xmU (List.mem_of_getElem? (i := 645) (by decide +kernel)) rfl
theorem ww_646 : (.code ⟨"MemoryLinkModel", "remove", "(I)I"⟩ prog_9_method_4_code 4 (some .int) : Cond) ∈ wU := xmU (List.mem_of_getElem? (i := 646) (by decide +kernel)) rfl
theorem ww_647 : (.methodLink "MemoryLinkModel" 114 ⟨"MemoryLinkModel", "send", "(I)V"⟩ : Cond) ∈ wU := xmU (List.mem_of_getElem? (i := 647) (by decide +kernel)) rfl
theorem ww_649 : (.instanceMethod ⟨"MemoryLinkModel", "send", "(I)V"⟩ : Cond) ∈ wU := xmU (List.mem_of_getElem? (i := 649) (by decide +kernel)) rfl
theorem ww_650 : (.code ⟨"MemoryLinkModel", "send", "(I)V"⟩ prog_9_method_11_code 3 none : Cond) ∈ wU := xmU (List.mem_of_getElem? (i := 650) (by decide +kernel)) rfl
theorem ww_651 : (.methodLink "MemoryLinkModel" 100 ⟨"MemoryLinkModel", "choose", "(I)I"⟩ : Cond) ∈ wU := xmU (List.mem_of_getElem? (i := 651) (by decide +kernel)) rfl
theorem ww_653 : (.instanceMethod ⟨"MemoryLinkModel", "choose", "(I)I"⟩ : Cond) ∈ wU := xmU (List.mem_of_getElem? (i := 653) (by decide +kernel)) rfl
theorem ww_654 : (.code ⟨"MemoryLinkModel", "choose", "(I)I"⟩ prog_9_method_10_code 4 (some .int) : Cond) ∈ wU := xmU (List.mem_of_getElem? (i := 654) (by decide +kernel)) rfl
theorem ww_655 : (.methodLink "MemoryLinkModel" 96 ⟨"MemoryLinkModel", "canLend", "(I)Z"⟩ : Cond) ∈ wU := xmU (List.mem_of_getElem? (i := 655) (by decide +kernel)) rfl
theorem ww_657 : (.instanceMethod ⟨"MemoryLinkModel", "canLend", "(I)Z"⟩ : Cond) ∈ wU := xmU (List.mem_of_getElem? (i := 657) (by decide +kernel)) rfl
theorem ww_658 : (.code ⟨"MemoryLinkModel", "canLend", "(I)Z"⟩ prog_9_method_9_code 2 (some .boolean) : Cond) ∈ wU := xmU (List.mem_of_getElem? (i := 658) (by decide +kernel)) rfl
theorem ww_659 : (.methodLink "MemoryLinkModel" 117 ⟨"MemoryLinkModel", "work", "()V"⟩ : Cond) ∈ wU := xmU (List.mem_of_getElem? (i := 659) (by decide +kernel)) rfl
theorem ww_661 : (.instanceMethod ⟨"MemoryLinkModel", "work", "()V"⟩ : Cond) ∈ wU := xmU (List.mem_of_getElem? (i := 661) (by decide +kernel)) rfl
theorem ww_662 : (.code ⟨"MemoryLinkModel", "work", "()V"⟩ prog_9_method_26_code 2 none : Cond) ∈ wU := xmU (List.mem_of_getElem? (i := 662) (by decide +kernel)) rfl
theorem ww_663 : (.methodLink "MemoryLinkModel" 167 ⟨"MemoryLinkModel", "collect", "(I)V"⟩ : Cond) ∈ wU := xmU (List.mem_of_getElem? (i := 663) (by decide +kernel)) rfl
theorem ww_665 : (.instanceMethod ⟨"MemoryLinkModel", "collect", "(I)V"⟩ : Cond) ∈ wU := xmU (List.mem_of_getElem? (i := 665) (by decide +kernel)) rfl
theorem ww_666 : (.code ⟨"MemoryLinkModel", "collect", "(I)V"⟩ prog_9_method_25_code 2 none : Cond) ∈ wU := xmU (List.mem_of_getElem? (i := 666) (by decide +kernel)) rfl
theorem ww_667 : (.methodLink "MemoryLinkModel" 130 ⟨"MemoryLinkModel", "checkOf", "(II)I"⟩ : Cond) ∈ wU := xmU (List.mem_of_getElem? (i := 667) (by decide +kernel)) rfl
theorem ww_669 : (.instanceMethod ⟨"MemoryLinkModel", "checkOf", "(II)I"⟩ : Cond) ∈ wU := xmU (List.mem_of_getElem? (i := 669) (by decide +kernel)) rfl
theorem ww_670 : (.code ⟨"MemoryLinkModel", "checkOf", "(II)I"⟩ prog_9_method_15_code 5 (some .int) : Cond) ∈ wU := xmU (List.mem_of_getElem? (i := 670) (by decide +kernel)) rfl
theorem ww_671 : (.methodLink "MemoryLinkModel" 123 ⟨"MemoryLinkModel", "mixed", "(II)I"⟩ : Cond) ∈ wU := xmU (List.mem_of_getElem? (i := 671) (by decide +kernel)) rfl
theorem ww_672 : (.static ⟨"MemoryLinkModel", "mixed", "(II)I"⟩ : Cond) ∈ wU := xmU (List.mem_of_getElem? (i := 672) (by decide +kernel)) rfl
theorem ww_673 : (.code ⟨"MemoryLinkModel", "mixed", "(II)I"⟩ prog_9_method_14_code 5 (some .int) : Cond) ∈ wU := xmU (List.mem_of_getElem? (i := 673) (by decide +kernel)) rfl
theorem ww_674 : (.methodLink "MemoryLinkModel" 164 ⟨"MemoryLinkModel", "obey", "()V"⟩ : Cond) ∈ wU := xmU (List.mem_of_getElem? (i := 674) (by decide +kernel)) rfl
theorem ww_676 : (.instanceMethod ⟨"MemoryLinkModel", "obey", "()V"⟩ : Cond) ∈ wU := xmU (List.mem_of_getElem? (i := 676) (by decide +kernel)) rfl
theorem ww_677 : (.code ⟨"MemoryLinkModel", "obey", "()V"⟩ prog_9_method_24_code 5 none : Cond) ∈ wU := xmU (List.mem_of_getElem? (i := 677) (by decide +kernel)) rfl
theorem ww_678 : (.methodLink "MemoryLinkModel" 151 ⟨"MemoryLinkModel", "judge", "()I"⟩ : Cond) ∈ wU := xmU (List.mem_of_getElem? (i := 678) (by decide +kernel)) rfl
theorem ww_680 : (.instanceMethod ⟨"MemoryLinkModel", "judge", "()I"⟩ : Cond) ∈ wU := xmU (List.mem_of_getElem? (i := 680) (by decide +kernel)) rfl
theorem ww_681 : (.code ⟨"MemoryLinkModel", "judge", "()I"⟩ prog_9_method_18_code 7 (some .int) : Cond) ∈ wU := xmU (List.mem_of_getElem? (i := 681) (by decide +kernel)) rfl
theorem ww_682 : (.methodLink "MemoryLinkModel" 133 ⟨"MemoryLinkModel", "has", "(I)Z"⟩ : Cond) ∈ wU := xmU (List.mem_of_getElem? (i := 682) (by decide +kernel)) rfl
theorem ww_684 : (.instanceMethod ⟨"MemoryLinkModel", "has", "(I)Z"⟩ : Cond) ∈ wU := xmU (List.mem_of_getElem? (i := 684) (by decide +kernel)) rfl
theorem ww_685 : (.code ⟨"MemoryLinkModel", "has", "(I)Z"⟩ prog_9_method_16_code 2 (some .boolean) : Cond) ∈ wU := xmU (List.mem_of_getElem? (i := 685) (by decide +kernel)) rfl
theorem ww_686 : (.methodLink "MemoryLinkModel" 136 ⟨"MemoryLinkModel", "dataStatus", "(I)I"⟩ : Cond) ∈ wU := xmU (List.mem_of_getElem? (i := 686) (by decide +kernel)) rfl
theorem ww_688 : (.instanceMethod ⟨"MemoryLinkModel", "dataStatus", "(I)I"⟩ : Cond) ∈ wU := xmU (List.mem_of_getElem? (i := 688) (by decide +kernel)) rfl
theorem ww_689 : (.code ⟨"MemoryLinkModel", "dataStatus", "(I)I"⟩ prog_9_method_17_code 3 (some .int) : Cond) ∈ wU := xmU (List.mem_of_getElem? (i := 689) (by decide +kernel)) rfl
theorem ww_690 : (.methodLink "MemoryLinkModel" 145 ⟨"MemoryLinkModel", "say", "(I)V"⟩ : Cond) ∈ wU := xmU (List.mem_of_getElem? (i := 690) (by decide +kernel)) rfl
theorem ww_692 : (.instanceMethod ⟨"MemoryLinkModel", "say", "(I)V"⟩ : Cond) ∈ wU := xmU (List.mem_of_getElem? (i := 692) (by decide +kernel)) rfl
theorem ww_693 : (.code ⟨"MemoryLinkModel", "say", "(I)V"⟩ prog_9_method_22_code 2 none : Cond) ∈ wU := xmU (List.mem_of_getElem? (i := 693) (by decide +kernel)) rfl
theorem ww_694 : (.methodLink "MemoryLinkModel" 155 ⟨"MemoryLinkModel", "sayCheck", "(I)V"⟩ : Cond) ∈ wU := xmU (List.mem_of_getElem? (i := 694) (by decide +kernel)) rfl
theorem ww_696 : (.instanceMethod ⟨"MemoryLinkModel", "sayCheck", "(I)V"⟩ : Cond) ∈ wU := xmU (List.mem_of_getElem? (i := 696) (by decide +kernel)) rfl
theorem ww_697 : (.code ⟨"MemoryLinkModel", "sayCheck", "(I)V"⟩ prog_9_method_23_code 4 none : Cond) ∈ wU := xmU (List.mem_of_getElem? (i := 697) (by decide +kernel)) rfl
theorem ww_698 : (.methodLink "MemoryLinkModel" 139 ⟨"MemoryLinkModel", "addressOf", "(I)I"⟩ : Cond) ∈ wU := xmU (List.mem_of_getElem? (i := 698) (by decide +kernel)) rfl
theorem ww_700 : (.instanceMethod ⟨"MemoryLinkModel", "addressOf", "(I)I"⟩ : Cond) ∈ wU := xmU (List.mem_of_getElem? (i := 700) (by decide +kernel)) rfl
theorem ww_701 : (.code ⟨"MemoryLinkModel", "addressOf", "(I)I"⟩ prog_9_method_19_code 2 (some .int) : Cond) ∈ wU := xmU (List.mem_of_getElem? (i := 701) (by decide +kernel)) rfl
theorem ww_702 : (.methodLink "MemoryLinkModel" 158 ⟨"MemoryLinkModel", "writeData", "()V"⟩ : Cond) ∈ wU := xmU (List.mem_of_getElem? (i := 702) (by decide +kernel)) rfl
theorem ww_704 : (.instanceMethod ⟨"MemoryLinkModel", "writeData", "()V"⟩ : Cond) ∈ wU := xmU (List.mem_of_getElem? (i := 704) (by decide +kernel)) rfl
theorem ww_705 : (.code ⟨"MemoryLinkModel", "writeData", "()V"⟩ prog_9_method_20_code 4 none : Cond) ∈ wU := xmU (List.mem_of_getElem? (i := 705) (by decide +kernel)) rfl
theorem ww_706 : (.methodLink "MemoryLinkModel" 161 ⟨"MemoryLinkModel", "changeBits", "(I)V"⟩ : Cond) ∈ wU := xmU (List.mem_of_getElem? (i := 706) (by decide +kernel)) rfl
theorem ww_708 : (.instanceMethod ⟨"MemoryLinkModel", "changeBits", "(I)V"⟩ : Cond) ∈ wU := xmU (List.mem_of_getElem? (i := 708) (by decide +kernel)) rfl
theorem ww_709 : (.code ⟨"MemoryLinkModel", "changeBits", "(I)V"⟩ prog_9_method_21_code 4 none : Cond) ∈ wU := xmU (List.mem_of_getElem? (i := 709) (by decide +kernel)) rfl
theorem ww_710 : (.methodLink "MemoryLinkModel" 170 ⟨"MemoryLinkModel", "append", "(II)V"⟩ : Cond) ∈ wU := xmU (List.mem_of_getElem? (i := 710) (by decide +kernel)) rfl
theorem ww_712 : (.instanceMethod ⟨"MemoryLinkModel", "append", "(II)V"⟩ : Cond) ∈ wU := xmU (List.mem_of_getElem? (i := 712) (by decide +kernel)) rfl
theorem ww_713 : (.code ⟨"MemoryLinkModel", "append", "(II)V"⟩ prog_9_method_5_code 3 none : Cond) ∈ wU := xmU (List.mem_of_getElem? (i := 713) (by decide +kernel)) rfl
theorem ww_714 : (.methodLink "MemoryLinkLaw" 25 ⟨"MemoryLinkModel", "control", "(IZZ)Z"⟩ : Cond) ∈ wU := xmU (List.mem_of_getElem? (i := 714) (by decide +kernel)) rfl
theorem ww_715 : (.instanceMethod ⟨"MemoryLinkModel", "control", "(IZZ)Z"⟩ : Cond) ∈ wU := xmU (List.mem_of_getElem? (i := 715) (by decide +kernel)) rfl
theorem ww_716 : (.selects "MemoryLinkModel" ⟨"MemoryLinkModel", "control", "(IZZ)Z"⟩ ⟨"MemoryLinkModel", "control", "(IZZ)Z"⟩ : Cond) ∈ wU := xmU (List.mem_of_getElem? (i := 716) (by decide +kernel)) rfl
theorem ww_717 : (.code ⟨"MemoryLinkModel", "control", "(IZZ)Z"⟩ prog_9_method_27_code 4 (some .boolean) : Cond) ∈ wU := xmU (List.mem_of_getElem? (i := 717) (by decide +kernel)) rfl
theorem ww_718 : (.methodLink "MemoryLinkModel" 173 ⟨"MemoryLinkModel", "isEnd", "(I)Z"⟩ : Cond) ∈ wU := xmU (List.mem_of_getElem? (i := 718) (by decide +kernel)) rfl
theorem ww_719 : (.static ⟨"MemoryLinkModel", "isEnd", "(I)Z"⟩ : Cond) ∈ wU := xmU (List.mem_of_getElem? (i := 719) (by decide +kernel)) rfl
theorem ww_720 : (.code ⟨"MemoryLinkModel", "isEnd", "(I)Z"⟩ prog_9_method_2_code 1 (some .boolean) : Cond) ∈ wU := xmU (List.mem_of_getElem? (i := 720) (by decide +kernel)) rfl
theorem ww_721 : (.methodLink "MemoryLinkLaw" 35 ⟨"MemoryLinkModel", "put", "(II)I"⟩ : Cond) ∈ wU := xmU (List.mem_of_getElem? (i := 721) (by decide +kernel)) rfl
theorem ww_722 : (.instanceMethod ⟨"MemoryLinkModel", "put", "(II)I"⟩ : Cond) ∈ wU := xmU (List.mem_of_getElem? (i := 722) (by decide +kernel)) rfl
theorem ww_723 : (.selects "MemoryLinkModel" ⟨"MemoryLinkModel", "put", "(II)I"⟩ ⟨"MemoryLinkModel", "put", "(II)I"⟩ : Cond) ∈ wU := xmU (List.mem_of_getElem? (i := 723) (by decide +kernel)) rfl
theorem ww_724 : (.code ⟨"MemoryLinkModel", "put", "(II)I"⟩ prog_9_method_28_code 3 (some .int) : Cond) ∈ wU := xmU (List.mem_of_getElem? (i := 724) (by decide +kernel)) rfl
theorem ww_725 : (.methodLink "MemoryLinkLaw" 40 ⟨"MemoryLinkModel", "command", "(IIIIIII)I"⟩ : Cond) ∈ wU := xmU (List.mem_of_getElem? (i := 725) (by decide +kernel)) rfl
theorem ww_726 : (.instanceMethod ⟨"MemoryLinkModel", "command", "(IIIIIII)I"⟩ : Cond) ∈ wU := xmU (List.mem_of_getElem? (i := 726) (by decide +kernel)) rfl
theorem ww_727 : (.selects "MemoryLinkModel" ⟨"MemoryLinkModel", "command", "(IIIIIII)I"⟩ ⟨"MemoryLinkModel", "command", "(IIIIIII)I"⟩ : Cond) ∈ wU := xmU (List.mem_of_getElem? (i := 727) (by decide +kernel)) rfl
theorem ww_728 : (.code ⟨"MemoryLinkModel", "command", "(IIIIIII)I"⟩ prog_9_method_30_code 12 (some .int) : Cond) ∈ wU := xmU (List.mem_of_getElem? (i := 728) (by decide +kernel)) rfl
theorem ww_729 : (.methodLink "MemoryLinkModel" 176 ⟨"MemoryLinkModel", "fits", "(II)Z"⟩ : Cond) ∈ wU := xmU (List.mem_of_getElem? (i := 729) (by decide +kernel)) rfl
theorem ww_730 : (.static ⟨"MemoryLinkModel", "fits", "(II)Z"⟩ : Cond) ∈ wU := xmU (List.mem_of_getElem? (i := 730) (by decide +kernel)) rfl
theorem ww_731 : (.code ⟨"MemoryLinkModel", "fits", "(II)Z"⟩ prog_9_method_29_code 2 (some .boolean) : Cond) ∈ wU := xmU (List.mem_of_getElem? (i := 731) (by decide +kernel)) rfl
theorem ww_732 : (.constant "MemoryLinkModel" 180 65535 : Cond) ∈ wU := xmU (List.mem_of_getElem? (i := 732) (by decide +kernel)) rfl
theorem ww_733 : (.methodLink "MemoryLinkLaw" 44 ⟨"MemoryLinkModel", "take", "(I)I"⟩ : Cond) ∈ wU := xmU (List.mem_of_getElem? (i := 733) (by decide +kernel)) rfl
theorem ww_734 : (.instanceMethod ⟨"MemoryLinkModel", "take", "(I)I"⟩ : Cond) ∈ wU := xmU (List.mem_of_getElem? (i := 734) (by decide +kernel)) rfl
theorem ww_735 : (.selects "MemoryLinkModel" ⟨"MemoryLinkModel", "take", "(I)I"⟩ ⟨"MemoryLinkModel", "take", "(I)I"⟩ : Cond) ∈ wU := xmU (List.mem_of_getElem? (i := 735) (by decide +kernel)) rfl
theorem ww_736 : (.code ⟨"MemoryLinkModel", "take", "(I)I"⟩ prog_9_method_31_code 2 (some .int) : Cond) ∈ wU := xmU (List.mem_of_getElem? (i := 736) (by decide +kernel)) rfl
theorem ww_737 : (.methodLink "MemoryLinkLaw" 49 ⟨"MemoryLinkModel", "sendTime", "(II)Z"⟩ : Cond) ∈ wU := xmU (List.mem_of_getElem? (i := 737) (by decide +kernel)) rfl
theorem ww_738 : (.instanceMethod ⟨"MemoryLinkModel", "sendTime", "(II)Z"⟩ : Cond) ∈ wU := xmU (List.mem_of_getElem? (i := 738) (by decide +kernel)) rfl
theorem ww_739 : (.selects "MemoryLinkModel" ⟨"MemoryLinkModel", "sendTime", "(II)Z"⟩ ⟨"MemoryLinkModel", "sendTime", "(II)Z"⟩ : Cond) ∈ wU := xmU (List.mem_of_getElem? (i := 739) (by decide +kernel)) rfl
theorem ww_740 : (.code ⟨"MemoryLinkModel", "sendTime", "(II)Z"⟩ prog_9_method_32_code 3 (some .boolean) : Cond) ∈ wU := xmU (List.mem_of_getElem? (i := 740) (by decide +kernel)) rfl
theorem ww_741 : (.methodLink "MemoryLinkLaw" 54 ⟨"MemoryLinkModel", "spoil", "(I)Z"⟩ : Cond) ∈ wU := xmU (List.mem_of_getElem? (i := 741) (by decide +kernel)) rfl
theorem ww_742 : (.instanceMethod ⟨"MemoryLinkModel", "spoil", "(I)Z"⟩ : Cond) ∈ wU := xmU (List.mem_of_getElem? (i := 742) (by decide +kernel)) rfl
theorem ww_743 : (.selects "MemoryLinkModel" ⟨"MemoryLinkModel", "spoil", "(I)Z"⟩ ⟨"MemoryLinkModel", "spoil", "(I)Z"⟩ : Cond) ∈ wU := xmU (List.mem_of_getElem? (i := 743) (by decide +kernel)) rfl
theorem ww_744 : (.code ⟨"MemoryLinkModel", "spoil", "(I)Z"⟩ prog_9_method_33_code 2 (some .boolean) : Cond) ∈ wU := xmU (List.mem_of_getElem? (i := 744) (by decide +kernel)) rfl
theorem ww_745 : (.methodLink "MemoryLinkLaw" 58 ⟨"MemoryLinkModel", "look", "(II)I"⟩ : Cond) ∈ wU := xmU (List.mem_of_getElem? (i := 745) (by decide +kernel)) rfl
theorem ww_746 : (.instanceMethod ⟨"MemoryLinkModel", "look", "(II)I"⟩ : Cond) ∈ wU := xmU (List.mem_of_getElem? (i := 746) (by decide +kernel)) rfl
theorem ww_747 : (.selects "MemoryLinkModel" ⟨"MemoryLinkModel", "look", "(II)I"⟩ ⟨"MemoryLinkModel", "look", "(II)I"⟩ : Cond) ∈ wU := xmU (List.mem_of_getElem? (i := 747) (by decide +kernel)) rfl
theorem ww_748 : (.code ⟨"MemoryLinkModel", "look", "(II)I"⟩ prog_9_method_34_code 3 (some .int) : Cond) ∈ wU := xmU (List.mem_of_getElem? (i := 748) (by decide +kernel)) rfl
theorem ww_749 : (.methodLink "MemoryLinkLaw" 62 ⟨"MemoryLinkModel", "memory", "(I)I"⟩ : Cond) ∈ wU := xmU (List.mem_of_getElem? (i := 749) (by decide +kernel)) rfl
theorem ww_750 : (.instanceMethod ⟨"MemoryLinkModel", "memory", "(I)I"⟩ : Cond) ∈ wU := xmU (List.mem_of_getElem? (i := 750) (by decide +kernel)) rfl
theorem ww_751 : (.selects "MemoryLinkModel" ⟨"MemoryLinkModel", "memory", "(I)I"⟩ ⟨"MemoryLinkModel", "memory", "(I)I"⟩ : Cond) ∈ wU := xmU (List.mem_of_getElem? (i := 751) (by decide +kernel)) rfl
theorem ww_752 : (.code ⟨"MemoryLinkModel", "memory", "(I)I"⟩ prog_9_method_35_code 2 (some .int) : Cond) ∈ wU := xmU (List.mem_of_getElem? (i := 752) (by decide +kernel)) rfl
theorem ww_753 : (.methodLink "MemoryLinkLaw" 67 ⟨"MemoryLinkModel", "commands", "()I"⟩ : Cond) ∈ wU := xmU (List.mem_of_getElem? (i := 753) (by decide +kernel)) rfl
theorem ww_754 : (.instanceMethod ⟨"MemoryLinkModel", "commands", "()I"⟩ : Cond) ∈ wU := xmU (List.mem_of_getElem? (i := 754) (by decide +kernel)) rfl
theorem ww_755 : (.selects "MemoryLinkModel" ⟨"MemoryLinkModel", "commands", "()I"⟩ ⟨"MemoryLinkModel", "commands", "()I"⟩ : Cond) ∈ wU := xmU (List.mem_of_getElem? (i := 755) (by decide +kernel)) rfl
theorem ww_756 : (.code ⟨"MemoryLinkModel", "commands", "()I"⟩ prog_9_method_36_code 1 (some .int) : Cond) ∈ wU := xmU (List.mem_of_getElem? (i := 756) (by decide +kernel)) rfl
theorem ww_757 : (.methodLink "MemoryLinkLaw" 71 ⟨"MemoryLinkModel", "status", "()I"⟩ : Cond) ∈ wU := xmU (List.mem_of_getElem? (i := 757) (by decide +kernel)) rfl
theorem ww_758 : (.instanceMethod ⟨"MemoryLinkModel", "status", "()I"⟩ : Cond) ∈ wU := xmU (List.mem_of_getElem? (i := 758) (by decide +kernel)) rfl
theorem ww_759 : (.selects "MemoryLinkModel" ⟨"MemoryLinkModel", "status", "()I"⟩ ⟨"MemoryLinkModel", "status", "()I"⟩ : Cond) ∈ wU := xmU (List.mem_of_getElem? (i := 759) (by decide +kernel)) rfl
theorem ww_760 : (.code ⟨"MemoryLinkModel", "status", "()I"⟩ prog_9_method_37_code 1 (some .int) : Cond) ∈ wU := xmU (List.mem_of_getElem? (i := 760) (by decide +kernel)) rfl
theorem wn_38 : (.fieldLinkNest "MemoryLink$Inlet" 20 "MemoryLink$Row" "size" "I" "MemoryLink" : Cond) ∈ xNs := List.mem_filter.mpr ⟨List.mem_of_getElem? (i := 38) (by decide +kernel), rfl⟩
theorem wn_39 : (.fieldLinkNest "MemoryLink$Outlet" 20 "MemoryLink$Row" "size" "I" "MemoryLink" : Cond) ∈ xNs := List.mem_filter.mpr ⟨List.mem_of_getElem? (i := 39) (by decide +kernel), rfl⟩
theorem wn_67 : (.fieldLinkNest "MemoryLink" 95 "MemoryLink$Outlet" "throwing" "Z" "MemoryLink" : Cond) ∈ xNs := List.mem_filter.mpr ⟨List.mem_of_getElem? (i := 67) (by decide +kernel), rfl⟩
theorem wn_76 : (.fieldLinkNest "MemoryLink$Target" 48 "MemoryLink$End" "in" "LMemoryLink$Inlet;" "MemoryLink" : Cond) ∈ xNs := List.mem_filter.mpr ⟨List.mem_of_getElem? (i := 76) (by decide +kernel), rfl⟩
theorem wn_77 : (.fieldLinkNest "MemoryLink" 102 "MemoryLink$End" "in" "LMemoryLink$Inlet;" "MemoryLink" : Cond) ∈ xNs := List.mem_filter.mpr ⟨List.mem_of_getElem? (i := 77) (by decide +kernel), rfl⟩
theorem wn_79 : (.fieldLinkNest "MemoryLink$Target" 38 "MemoryLink$End" "out" "LMemoryLink$Outlet;" "MemoryLink" : Cond) ∈ xNs := List.mem_filter.mpr ⟨List.mem_of_getElem? (i := 79) (by decide +kernel), rfl⟩
theorem wn_80 : (.fieldLinkNest "MemoryLink" 58 "MemoryLink$End" "out" "LMemoryLink$Outlet;" "MemoryLink" : Cond) ∈ xNs := List.mem_filter.mpr ⟨List.mem_of_getElem? (i := 80) (by decide +kernel), rfl⟩
theorem wn_87 : (.fieldLinkNest "MemoryLink" 54 "MemoryLink$End" "state" "I" "MemoryLink" : Cond) ∈ xNs := List.mem_filter.mpr ⟨List.mem_of_getElem? (i := 87) (by decide +kernel), rfl⟩
theorem wn_96 : (.fieldLinkNest "MemoryLink" 111 "MemoryLink$End" "askedTime" "I" "MemoryLink" : Cond) ∈ xNs := List.mem_filter.mpr ⟨List.mem_of_getElem? (i := 96) (by decide +kernel), rfl⟩
theorem wn_97 : (.fieldLinkNest "MemoryLink" 114 "MemoryLink$End" "spoilNext" "Z" "MemoryLink" : Cond) ∈ xNs := List.mem_filter.mpr ⟨List.mem_of_getElem? (i := 97) (by decide +kernel), rfl⟩
theorem wn_100 : (.fieldLinkNest "MemoryLink" 130 "MemoryLink$End" "sent" "I" "MemoryLink" : Cond) ∈ xNs := List.mem_filter.mpr ⟨List.mem_of_getElem? (i := 100) (by decide +kernel), rfl⟩
theorem wn_102 : (.fieldLinkNest "MemoryLink" 133 "MemoryLink$End" "sentSpoiled" "Z" "MemoryLink" : Cond) ∈ xNs := List.mem_filter.mpr ⟨List.mem_of_getElem? (i := 102) (by decide +kernel), rfl⟩
theorem wn_156 : (.fieldLinkNest "MemoryLink$Target" 75 "MemoryLink$Packet" "count" "I" "MemoryLink" : Cond) ∈ xNs := List.mem_filter.mpr ⟨List.mem_of_getElem? (i := 156) (by decide +kernel), rfl⟩
theorem wn_157 : (.fieldLinkNest "MemoryLink$Outlet" 39 "MemoryLink$Packet" "count" "I" "MemoryLink" : Cond) ∈ xNs := List.mem_filter.mpr ⟨List.mem_of_getElem? (i := 157) (by decide +kernel), rfl⟩
theorem wn_158 : (.fieldLinkNest "MemoryLink" 92 "MemoryLink$Packet" "count" "I" "MemoryLink" : Cond) ∈ xNs := List.mem_filter.mpr ⟨List.mem_of_getElem? (i := 158) (by decide +kernel), rfl⟩
theorem wn_170 : (.fieldLinkNest "MemoryLink" 124 "MemoryLink$Target" "commandCount" "I" "MemoryLink" : Cond) ∈ xNs := List.mem_filter.mpr ⟨List.mem_of_getElem? (i := 170) (by decide +kernel), rfl⟩
theorem wn_172 : (.fieldLinkNest "MemoryLink" 127 "MemoryLink$Target" "latestStatus" "I" "MemoryLink" : Cond) ∈ xNs := List.mem_filter.mpr ⟨List.mem_of_getElem? (i := 172) (by decide +kernel), rfl⟩
theorem wn_265 : (.methodLinkNest "MemoryLink$Inlet" 27 ⟨"MemoryLink", "isData", "(I)Z"⟩ "MemoryLink" : Cond) ∈ xNs := List.mem_filter.mpr ⟨List.mem_of_getElem? (i := 265) (by decide +kernel), rfl⟩
theorem wn_288 : (.methodLinkNest "MemoryLink$Outlet" 32 ⟨"MemoryLink", "isData", "(I)Z"⟩ "MemoryLink" : Cond) ∈ xNs := List.mem_filter.mpr ⟨List.mem_of_getElem? (i := 288) (by decide +kernel), rfl⟩
theorem wn_363 : (.methodLinkNest "MemoryLink$Target" 58 ⟨"MemoryLink", "isData", "(I)Z"⟩ "MemoryLink" : Cond) ∈ xNs := List.mem_filter.mpr ⟨List.mem_of_getElem? (i := 363) (by decide +kernel), rfl⟩
theorem ws_End_arriveCredit : (.selects "MemoryLink$End" ⟨"MemoryLink$End", "arriveCredit", "()V"⟩ ⟨"MemoryLink$End", "arriveCredit", "()V"⟩ : Cond) ∈ wU := xmS (q := (⟨"MemoryLink$End", "arriveCredit", "()V"⟩, 19)) (List.mem_of_getElem? (i := 3) (by decide +kernel)) rfl
theorem ws_End_arrivePacketCharacter : (.selects "MemoryLink$End" ⟨"MemoryLink$End", "arrivePacketCharacter", "(I)V"⟩ ⟨"MemoryLink$End", "arrivePacketCharacter", "(I)V"⟩ : Cond) ∈ wU := xmS (q := (⟨"MemoryLink$End", "arrivePacketCharacter", "(I)V"⟩, 19)) (List.mem_of_getElem? (i := 6) (by decide +kernel)) rfl
theorem ws_End_arriveTime : (.selects "MemoryLink$End" ⟨"MemoryLink$End", "arriveTime", "(I)V"⟩ ⟨"MemoryLink$End", "arriveTime", "(I)V"⟩ : Cond) ∈ wU := xmS (q := (⟨"MemoryLink$End", "arriveTime", "(I)V"⟩, 19)) (List.mem_of_getElem? (i := 5) (by decide +kernel)) rfl
theorem ws_End_begin : (.selects "MemoryLink$End" ⟨"MemoryLink$End", "begin", "(I)V"⟩ ⟨"MemoryLink$End", "begin", "(I)V"⟩ : Cond) ∈ wU := xmS (q := (⟨"MemoryLink$End", "begin", "(I)V"⟩, 19)) (List.mem_of_getElem? (i := 4) (by decide +kernel)) rfl
theorem ws_End_beginAfter : (.selects "MemoryLink$End" ⟨"MemoryLink$End", "beginAfter", "(II)V"⟩ ⟨"MemoryLink$End", "beginAfter", "(II)V"⟩ : Cond) ∈ wU := xmS (q := (⟨"MemoryLink$End", "beginAfter", "(II)V"⟩, 19)) (List.mem_of_getElem? (i := 9) (by decide +kernel)) rfl
theorem ws_End_canLend : (.selects "MemoryLink$End" ⟨"MemoryLink$End", "canLend", "()Z"⟩ ⟨"MemoryLink$End", "canLend", "()Z"⟩ : Cond) ∈ wU := xmS (q := (⟨"MemoryLink$End", "canLend", "()Z"⟩, 19)) (List.mem_of_getElem? (i := 12) (by decide +kernel)) rfl
theorem ws_End_fall : (.selects "MemoryLink$End" ⟨"MemoryLink$End", "fall", "()V"⟩ ⟨"MemoryLink$End", "fall", "()V"⟩ : Cond) ∈ wU := xmS (q := (⟨"MemoryLink$End", "fall", "()V"⟩, 19)) (List.mem_of_getElem? (i := 8) (by decide +kernel)) rfl
theorem ws_End_fallAfterPatience : (.selects "MemoryLink$End" ⟨"MemoryLink$End", "fallAfterPatience", "()V"⟩ ⟨"MemoryLink$End", "fallAfterPatience", "()V"⟩ : Cond) ∈ wU := xmS (q := (⟨"MemoryLink$End", "fallAfterPatience", "()V"⟩, 19)) (List.mem_of_getElem? (i := 10) (by decide +kernel)) rfl
theorem ws_End_lend : (.selects "MemoryLink$End" ⟨"MemoryLink$End", "lend", "()I"⟩ ⟨"MemoryLink$End", "lend", "()I"⟩ : Cond) ∈ wU := xmS (q := (⟨"MemoryLink$End", "lend", "()I"⟩, 19)) (List.mem_of_getElem? (i := 13) (by decide +kernel)) rfl
theorem ws_End_nextCharacter : (.selects "MemoryLink$End" ⟨"MemoryLink$End", "nextCharacter", "()I"⟩ ⟨"MemoryLink$End", "nextCharacter", "()I"⟩ : Cond) ∈ wU := xmS (q := (⟨"MemoryLink$End", "nextCharacter", "()I"⟩, 19)) (List.mem_of_getElem? (i := 11) (by decide +kernel)) rfl
theorem ws_End_nextInRun : (.selects "MemoryLink$End" ⟨"MemoryLink$End", "nextInRun", "()I"⟩ ⟨"MemoryLink$End", "nextInRun", "()I"⟩ : Cond) ∈ wU := xmS (q := (⟨"MemoryLink$End", "nextInRun", "()I"⟩, 19)) (List.mem_of_getElem? (i := 14) (by decide +kernel)) rfl
theorem ws_End_noticeSilence : (.selects "MemoryLink$End" ⟨"MemoryLink$End", "noticeSilence", "()V"⟩ ⟨"MemoryLink$End", "noticeSilence", "()V"⟩ : Cond) ∈ wU := xmS (q := (⟨"MemoryLink$End", "noticeSilence", "()V"⟩, 19)) (List.mem_of_getElem? (i := 2) (by decide +kernel)) rfl
theorem ws_MemoryLink_draftData : (.selects "MemoryLink" ⟨"MemoryLink", "draftData", "(III)V"⟩ ⟨"MemoryLink", "draftData", "(III)V"⟩ : Cond) ∈ wU := xmS (q := (⟨"MemoryLink", "draftData", "(III)V"⟩, 5)) (List.mem_of_getElem? (i := 32) (by decide +kernel)) rfl
theorem ws_MemoryLink_draftHead : (.selects "MemoryLink" ⟨"MemoryLink", "draftHead", "(IIIIII)V"⟩ ⟨"MemoryLink", "draftHead", "(IIIIII)V"⟩ : Cond) ∈ wU := xmS (q := (⟨"MemoryLink", "draftHead", "(IIIIII)V"⟩, 5)) (List.mem_of_getElem? (i := 31) (by decide +kernel)) rfl
theorem ws_MemoryLink_endOf : (.selects "MemoryLink" ⟨"MemoryLink", "endOf", "(I)LMemoryLink$End;"⟩ ⟨"MemoryLink", "endOf", "(I)LMemoryLink$End;"⟩ : Cond) ∈ wU := xmS (q := (⟨"MemoryLink", "endOf", "(I)LMemoryLink$End;"⟩, 5)) (List.mem_of_getElem? (i := 0) (by decide +kernel)) rfl
theorem ws_MemoryLink_tick : (.selects "MemoryLink" ⟨"MemoryLink", "tick", "()V"⟩ ⟨"MemoryLink", "tick", "()V"⟩ : Cond) ∈ wU := xmS (q := (⟨"MemoryLink", "tick", "()V"⟩, 5)) (List.mem_of_getElem? (i := 1) (by decide +kernel)) rfl
theorem ws_Model_add : (.selects "MemoryLinkModel" ⟨"MemoryLinkModel", "add", "(II)V"⟩ ⟨"MemoryLinkModel", "add", "(II)V"⟩ : Cond) ∈ wU := xmS (q := (⟨"MemoryLinkModel", "add", "(II)V"⟩, 28)) (List.mem_of_getElem? (i := 35) (by decide +kernel)) rfl
theorem ws_Model_addressOf : (.selects "MemoryLinkModel" ⟨"MemoryLinkModel", "addressOf", "(I)I"⟩ ⟨"MemoryLinkModel", "addressOf", "(I)I"⟩ : Cond) ∈ wU := xmS (q := (⟨"MemoryLinkModel", "addressOf", "(I)I"⟩, 28)) (List.mem_of_getElem? (i := 51) (by decide +kernel)) rfl
theorem ws_Model_append : (.selects "MemoryLinkModel" ⟨"MemoryLinkModel", "append", "(II)V"⟩ ⟨"MemoryLinkModel", "append", "(II)V"⟩ : Cond) ∈ wU := xmS (q := (⟨"MemoryLinkModel", "append", "(II)V"⟩, 28)) (List.mem_of_getElem? (i := 54) (by decide +kernel)) rfl
theorem ws_Model_arrival : (.selects "MemoryLinkModel" ⟨"MemoryLinkModel", "arrival", "(IIZ)Z"⟩ ⟨"MemoryLinkModel", "arrival", "(IIZ)Z"⟩ : Cond) ∈ wU := xmS (q := (⟨"MemoryLinkModel", "arrival", "(IIZ)Z"⟩, 28)) (List.mem_of_getElem? (i := 34) (by decide +kernel)) rfl
theorem ws_Model_canLend : (.selects "MemoryLinkModel" ⟨"MemoryLinkModel", "canLend", "(I)Z"⟩ ⟨"MemoryLinkModel", "canLend", "(I)Z"⟩ : Cond) ∈ wU := xmS (q := (⟨"MemoryLinkModel", "canLend", "(I)Z"⟩, 28)) (List.mem_of_getElem? (i := 41) (by decide +kernel)) rfl
theorem ws_Model_changeBits : (.selects "MemoryLinkModel" ⟨"MemoryLinkModel", "changeBits", "(I)V"⟩ ⟨"MemoryLinkModel", "changeBits", "(I)V"⟩ : Cond) ∈ wU := xmS (q := (⟨"MemoryLinkModel", "changeBits", "(I)V"⟩, 28)) (List.mem_of_getElem? (i := 53) (by decide +kernel)) rfl
theorem ws_Model_checkOf : (.selects "MemoryLinkModel" ⟨"MemoryLinkModel", "checkOf", "(II)I"⟩ ⟨"MemoryLinkModel", "checkOf", "(II)I"⟩ : Cond) ∈ wU := xmS (q := (⟨"MemoryLinkModel", "checkOf", "(II)I"⟩, 28)) (List.mem_of_getElem? (i := 44) (by decide +kernel)) rfl
theorem ws_Model_choose : (.selects "MemoryLinkModel" ⟨"MemoryLinkModel", "choose", "(I)I"⟩ ⟨"MemoryLinkModel", "choose", "(I)I"⟩ : Cond) ∈ wU := xmS (q := (⟨"MemoryLinkModel", "choose", "(I)I"⟩, 28)) (List.mem_of_getElem? (i := 40) (by decide +kernel)) rfl
theorem ws_Model_collect : (.selects "MemoryLinkModel" ⟨"MemoryLinkModel", "collect", "(I)V"⟩ ⟨"MemoryLinkModel", "collect", "(I)V"⟩ : Cond) ∈ wU := xmS (q := (⟨"MemoryLinkModel", "collect", "(I)V"⟩, 28)) (List.mem_of_getElem? (i := 43) (by decide +kernel)) rfl
theorem ws_Model_dataStatus : (.selects "MemoryLinkModel" ⟨"MemoryLinkModel", "dataStatus", "(I)I"⟩ ⟨"MemoryLinkModel", "dataStatus", "(I)I"⟩ : Cond) ∈ wU := xmS (q := (⟨"MemoryLinkModel", "dataStatus", "(I)I"⟩, 28)) (List.mem_of_getElem? (i := 48) (by decide +kernel)) rfl
theorem ws_Model_fall : (.selects "MemoryLinkModel" ⟨"MemoryLinkModel", "fall", "(I)V"⟩ ⟨"MemoryLinkModel", "fall", "(I)V"⟩ : Cond) ∈ wU := xmS (q := (⟨"MemoryLinkModel", "fall", "(I)V"⟩, 28)) (List.mem_of_getElem? (i := 37) (by decide +kernel)) rfl
theorem ws_Model_has : (.selects "MemoryLinkModel" ⟨"MemoryLinkModel", "has", "(I)Z"⟩ ⟨"MemoryLinkModel", "has", "(I)Z"⟩ : Cond) ∈ wU := xmS (q := (⟨"MemoryLinkModel", "has", "(I)Z"⟩, 28)) (List.mem_of_getElem? (i := 47) (by decide +kernel)) rfl
theorem ws_Model_judge : (.selects "MemoryLinkModel" ⟨"MemoryLinkModel", "judge", "()I"⟩ ⟨"MemoryLinkModel", "judge", "()I"⟩ : Cond) ∈ wU := xmS (q := (⟨"MemoryLinkModel", "judge", "()I"⟩, 28)) (List.mem_of_getElem? (i := 46) (by decide +kernel)) rfl
theorem ws_Model_late : (.selects "MemoryLinkModel" ⟨"MemoryLinkModel", "late", "(I)Z"⟩ ⟨"MemoryLinkModel", "late", "(I)Z"⟩ : Cond) ∈ wU := xmS (q := (⟨"MemoryLinkModel", "late", "(I)Z"⟩, 28)) (List.mem_of_getElem? (i := 36) (by decide +kernel)) rfl
theorem ws_Model_obey : (.selects "MemoryLinkModel" ⟨"MemoryLinkModel", "obey", "()V"⟩ ⟨"MemoryLinkModel", "obey", "()V"⟩ : Cond) ∈ wU := xmS (q := (⟨"MemoryLinkModel", "obey", "()V"⟩, 28)) (List.mem_of_getElem? (i := 45) (by decide +kernel)) rfl
theorem ws_Model_remove : (.selects "MemoryLinkModel" ⟨"MemoryLinkModel", "remove", "(I)I"⟩ ⟨"MemoryLinkModel", "remove", "(I)I"⟩ : Cond) ∈ wU := xmS (q := (⟨"MemoryLinkModel", "remove", "(I)I"⟩, 28)) (List.mem_of_getElem? (i := 38) (by decide +kernel)) rfl
theorem ws_Model_say : (.selects "MemoryLinkModel" ⟨"MemoryLinkModel", "say", "(I)V"⟩ ⟨"MemoryLinkModel", "say", "(I)V"⟩ : Cond) ∈ wU := xmS (q := (⟨"MemoryLinkModel", "say", "(I)V"⟩, 28)) (List.mem_of_getElem? (i := 49) (by decide +kernel)) rfl
theorem ws_Model_sayCheck : (.selects "MemoryLinkModel" ⟨"MemoryLinkModel", "sayCheck", "(I)V"⟩ ⟨"MemoryLinkModel", "sayCheck", "(I)V"⟩ : Cond) ∈ wU := xmS (q := (⟨"MemoryLinkModel", "sayCheck", "(I)V"⟩, 28)) (List.mem_of_getElem? (i := 50) (by decide +kernel)) rfl
theorem ws_Model_send : (.selects "MemoryLinkModel" ⟨"MemoryLinkModel", "send", "(I)V"⟩ ⟨"MemoryLinkModel", "send", "(I)V"⟩ : Cond) ∈ wU := xmS (q := (⟨"MemoryLinkModel", "send", "(I)V"⟩, 28)) (List.mem_of_getElem? (i := 39) (by decide +kernel)) rfl
theorem ws_Model_tick : (.selects "MemoryLinkModel" ⟨"MemoryLinkModel", "tick", "()V"⟩ ⟨"MemoryLinkModel", "tick", "()V"⟩ : Cond) ∈ wU := xmS (q := (⟨"MemoryLinkModel", "tick", "()V"⟩, 28)) (List.mem_of_getElem? (i := 33) (by decide +kernel)) rfl
theorem ws_Model_work : (.selects "MemoryLinkModel" ⟨"MemoryLinkModel", "work", "()V"⟩ ⟨"MemoryLinkModel", "work", "()V"⟩ : Cond) ∈ wU := xmS (q := (⟨"MemoryLinkModel", "work", "()V"⟩, 28)) (List.mem_of_getElem? (i := 42) (by decide +kernel)) rfl
theorem ws_Model_writeData : (.selects "MemoryLinkModel" ⟨"MemoryLinkModel", "writeData", "()V"⟩ ⟨"MemoryLinkModel", "writeData", "()V"⟩ : Cond) ∈ wU := xmS (q := (⟨"MemoryLinkModel", "writeData", "()V"⟩, 28)) (List.mem_of_getElem? (i := 52) (by decide +kernel)) rfl
theorem ws_Row_wrapped : (.selects "MemoryLink$Row" ⟨"MemoryLink$Row", "wrapped", "(I)I"⟩ ⟨"MemoryLink$Row", "wrapped", "(I)I"⟩ : Cond) ∈ wU := xmS (q := (⟨"MemoryLink$Row", "wrapped", "(I)I"⟩, 3)) (List.mem_of_getElem? (i := 7) (by decide +kernel)) rfl
theorem ws_Target_addressOf : (.selects "MemoryLink$Target" ⟨"MemoryLink$Target", "addressOf", "(I)I"⟩ ⟨"MemoryLink$Target", "addressOf", "(I)I"⟩ : Cond) ∈ wU := xmS (q := (⟨"MemoryLink$Target", "addressOf", "(I)I"⟩, 7)) (List.mem_of_getElem? (i := 25) (by decide +kernel)) rfl
theorem ws_Target_changeBytes : (.selects "MemoryLink$Target" ⟨"MemoryLink$Target", "changeBytes", "()V"⟩ ⟨"MemoryLink$Target", "changeBytes", "()V"⟩ : Cond) ∈ wU := xmS (q := (⟨"MemoryLink$Target", "changeBytes", "()V"⟩, 7)) (List.mem_of_getElem? (i := 28) (by decide +kernel)) rfl
theorem ws_Target_composeAnswer : (.selects "MemoryLink$Target" ⟨"MemoryLink$Target", "composeAnswer", "()V"⟩ ⟨"MemoryLink$Target", "composeAnswer", "()V"⟩ : Cond) ∈ wU := xmS (q := (⟨"MemoryLink$Target", "composeAnswer", "()V"⟩, 7)) (List.mem_of_getElem? (i := 30) (by decide +kernel)) rfl
theorem ws_Target_composeReply : (.selects "MemoryLink$Target" ⟨"MemoryLink$Target", "composeReply", "(I)V"⟩ ⟨"MemoryLink$Target", "composeReply", "(I)V"⟩ : Cond) ∈ wU := xmS (q := (⟨"MemoryLink$Target", "composeReply", "(I)V"⟩, 7)) (List.mem_of_getElem? (i := 29) (by decide +kernel)) rfl
theorem ws_Target_dataCount : (.selects "MemoryLink$Target" ⟨"MemoryLink$Target", "dataCount", "()I"⟩ ⟨"MemoryLink$Target", "dataCount", "()I"⟩ : Cond) ∈ wU := xmS (q := (⟨"MemoryLink$Target", "dataCount", "()I"⟩, 7)) (List.mem_of_getElem? (i := 22) (by decide +kernel)) rfl
theorem ws_Target_fillAnswer : (.selects "MemoryLink$Target" ⟨"MemoryLink$Target", "fillAnswer", "(I)V"⟩ ⟨"MemoryLink$Target", "fillAnswer", "(I)V"⟩ : Cond) ∈ wU := xmS (q := (⟨"MemoryLink$Target", "fillAnswer", "(I)V"⟩, 7)) (List.mem_of_getElem? (i := 27) (by decide +kernel)) rfl
theorem ws_Target_holdsCommand : (.selects "MemoryLink$Target" ⟨"MemoryLink$Target", "holdsCommand", "()Z"⟩ ⟨"MemoryLink$Target", "holdsCommand", "()Z"⟩ : Cond) ∈ wU := xmS (q := (⟨"MemoryLink$Target", "holdsCommand", "()Z"⟩, 7)) (List.mem_of_getElem? (i := 16) (by decide +kernel)) rfl
theorem ws_Target_judge : (.selects "MemoryLink$Target" ⟨"MemoryLink$Target", "judge", "()I"⟩ ⟨"MemoryLink$Target", "judge", "()I"⟩ : Cond) ∈ wU := xmS (q := (⟨"MemoryLink$Target", "judge", "()I"⟩, 7)) (List.mem_of_getElem? (i := 18) (by decide +kernel)) rfl
theorem ws_Target_judgeData : (.selects "MemoryLink$Target" ⟨"MemoryLink$Target", "judgeData", "(I)I"⟩ ⟨"MemoryLink$Target", "judgeData", "(I)I"⟩ : Cond) ∈ wU := xmS (q := (⟨"MemoryLink$Target", "judgeData", "(I)I"⟩, 7)) (List.mem_of_getElem? (i := 21) (by decide +kernel)) rfl
theorem ws_Target_lastAddress : (.selects "MemoryLink$Target" ⟨"MemoryLink$Target", "lastAddress", "(I)I"⟩ ⟨"MemoryLink$Target", "lastAddress", "(I)I"⟩ : Cond) ∈ wU := xmS (q := (⟨"MemoryLink$Target", "lastAddress", "(I)I"⟩, 7)) (List.mem_of_getElem? (i := 19) (by decide +kernel)) rfl
theorem ws_Target_mayWrite : (.selects "MemoryLink$Target" ⟨"MemoryLink$Target", "mayWrite", "(I)Z"⟩ ⟨"MemoryLink$Target", "mayWrite", "(I)Z"⟩ : Cond) ∈ wU := xmS (q := (⟨"MemoryLink$Target", "mayWrite", "(I)Z"⟩, 7)) (List.mem_of_getElem? (i := 23) (by decide +kernel)) rfl
theorem ws_Target_obey : (.selects "MemoryLink$Target" ⟨"MemoryLink$Target", "obey", "()V"⟩ ⟨"MemoryLink$Target", "obey", "()V"⟩ : Cond) ∈ wU := xmS (q := (⟨"MemoryLink$Target", "obey", "()V"⟩, 7)) (List.mem_of_getElem? (i := 17) (by decide +kernel)) rfl
theorem ws_Target_reach : (.selects "MemoryLink$Target" ⟨"MemoryLink$Target", "reach", "(I)I"⟩ ⟨"MemoryLink$Target", "reach", "(I)I"⟩ : Cond) ∈ wU := xmS (q := (⟨"MemoryLink$Target", "reach", "(I)I"⟩, 7)) (List.mem_of_getElem? (i := 20) (by decide +kernel)) rfl
theorem ws_Target_sendReply : (.selects "MemoryLink$Target" ⟨"MemoryLink$Target", "sendReply", "(LMemoryLink$Outlet;)V"⟩ ⟨"MemoryLink$Target", "sendReply", "(LMemoryLink$Outlet;)V"⟩ : Cond) ∈ wU := xmS (q := (⟨"MemoryLink$Target", "sendReply", "(LMemoryLink$Outlet;)V"⟩, 7)) (List.mem_of_getElem? (i := 15) (by decide +kernel)) rfl
theorem ws_Target_store : (.selects "MemoryLink$Target" ⟨"MemoryLink$Target", "store", "(II)V"⟩ ⟨"MemoryLink$Target", "store", "(II)V"⟩ : Cond) ∈ wU := xmS (q := (⟨"MemoryLink$Target", "store", "(II)V"⟩, 7)) (List.mem_of_getElem? (i := 26) (by decide +kernel)) rfl
theorem ws_Target_writeData : (.selects "MemoryLink$Target" ⟨"MemoryLink$Target", "writeData", "()V"⟩ ⟨"MemoryLink$Target", "writeData", "()V"⟩ : Cond) ∈ wU := xmS (q := (⟨"MemoryLink$Target", "writeData", "()V"⟩, 7)) (List.mem_of_getElem? (i := 24) (by decide +kernel)) rfl
theorem lay_Row : ∀ w ∈ u_ws R_Row F_Row 3, w ∈ wU := xmL [41, 43, 45] (by decide +kernel) (by decide +kernel)
theorem lay_Inlet : ∀ w ∈ u_ws R_Inlet F_Inlet 2, w ∈ wU := xmL [51, 53] (by decide +kernel) (by decide +kernel)
theorem lay_Outlet : ∀ w ∈ u_ws R_Outlet F_Outlet 3, w ∈ wU := xmL [68, 70, 72] (by decide +kernel) (by decide +kernel)
theorem lay_Packet : ∀ w ∈ u_ws R_Packet F_Packet 2, w ∈ wU := xmL [159, 161] (by decide +kernel) (by decide +kernel)
theorem lay_End : ∀ w ∈ u_ws R_End F_End 19, w ∈ wU := xmL [103, 105, 107, 109, 111, 113, 115, 117, 119, 121, 123, 125, 127, 129, 131, 133, 135, 137, 139] (by decide +kernel) (by decide +kernel)
theorem lay_Target : ∀ w ∈ u_ws R_Target F_Target 7, w ∈ wU := xmL [173, 175, 177, 179, 181, 183, 185] (by decide +kernel) (by decide +kernel)
theorem lay_MemoryLink : ∀ w ∈ u_ws R_MemoryLink F_MemoryLink 5, w ∈ wU := xmL [195, 197, 199, 201, 203] (by decide +kernel) (by decide +kernel)
theorem lay_Model : ∀ w ∈ u_ws R_Model F_Model 28, w ∈ wU := xmL [561, 563, 565, 567, 569, 571, 573, 575, 577, 579, 581, 583, 585, 587, 589, 591, 593, 595, 597, 599, 601, 603, 605, 607, 609, 611, 613, 615] (by decide +kernel) (by decide +kernel)
