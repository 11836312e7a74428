section
/-! names: classes, fields, methods, the one table of words (by wip/gen/run.py out of the claim's listing and tables) -/
def R_CN : String := "NetRoutes"
def F_CN : u_T := fun k => match k with
  | 0 => ("NetRoutes", "plan", "LNetRoutes$Plan;", true)
  | 1 => ("NetRoutes", "packets", "LNetRoutes$Packets;", true)
  | 2 => ("NetRoutes", "inputs", "LNetRoutes$Inputs;", true)
  | 3 => ("NetRoutes", "traffic", "LNetRoutes$Traffic;", true)
  | 4 => ("NetRoutes", "rings", "LNetRoutes$Rings;", true)
  | _ => ("NetRoutes", "seed", "I", false)
def t_CN : Nat → FieldType := fun k => match k with
  | 0 => .object "NetRoutes$Plan"
  | 1 => .object "NetRoutes$Packets"
  | 2 => .object "NetRoutes$Inputs"
  | 3 => .object "NetRoutes$Traffic"
  | 4 => .object "NetRoutes$Rings"
  | _ => .int
theorem n_CN : ∀ a, a < 6 → ∀ b, b < 6 → a ≠ b → (F_CN a).2.1 ≠ (F_CN b).2.1 := by decide +kernel
theorem t_CN_ok : ∀ k, k < 6 → parseFieldDescriptor (F_CN k).2.2.1 = some (t_CN k) := by decide +kernel
def R_CP : String := "NetRoutes$Plan"
def F_CP : u_T := fun k => match k with
  | 0 => ("NetRoutes$Plan", "nodes", "I", false)
  | 1 => ("NetRoutes$Plan", "links", "I", false)
  | 2 => ("NetRoutes$Plan", "begin", "[I", true)
  | 3 => ("NetRoutes$Plan", "end", "[I", true)
  | 4 => ("NetRoutes$Plan", "lanes", "[I", true)
  | 5 => ("NetRoutes$Plan", "failed", "[Z", true)
  | 6 => ("NetRoutes$Plan", "ways", "[I", true)
  | _ => ("NetRoutes$Plan", "distance", "[I", true)
def t_CP : Nat → FieldType := fun k => match k with
  | 0 => .int
  | 1 => .int
  | 2 => .array .int
  | 3 => .array .int
  | 4 => .array .int
  | 5 => .array .boolean
  | 6 => .array .int
  | _ => .array .int
theorem n_CP : ∀ a, a < 8 → ∀ b, b < 8 → a ≠ b → (F_CP a).2.1 ≠ (F_CP b).2.1 := by decide +kernel
theorem t_CP_ok : ∀ k, k < 8 → parseFieldDescriptor (F_CP k).2.2.1 = some (t_CP k) := by decide +kernel
def R_CK : String := "NetRoutes$Packets"
def F_CK : u_T := fun k => match k with
  | 0 => ("NetRoutes$Packets", "many", "I", false)
  | 1 => ("NetRoutes$Packets", "arrived", "I", false)
  | 2 => ("NetRoutes$Packets", "end", "[I", true)
  | 3 => ("NetRoutes$Packets", "flits", "[I", true)
  | 4 => ("NetRoutes$Packets", "waiting", "[I", true)
  | 5 => ("NetRoutes$Packets", "left", "[I", true)
  | _ => ("NetRoutes$Packets", "arrivedIn", "[I", true)
def t_CK : Nat → FieldType := fun k => match k with
  | 0 => .int
  | 1 => .int
  | 2 => .array .int
  | 3 => .array .int
  | 4 => .array .int
  | 5 => .array .int
  | _ => .array .int
theorem n_CK : ∀ a, a < 7 → ∀ b, b < 7 → a ≠ b → (F_CK a).2.1 ≠ (F_CK b).2.1 := by decide +kernel
theorem t_CK_ok : ∀ k, k < 7 → parseFieldDescriptor (F_CK k).2.2.1 = some (t_CK k) := by decide +kernel
def R_CI : String := "NetRoutes$Inputs"
def F_CI : u_T := fun k => match k with
  | 0 => ("NetRoutes$Inputs", "plan", "LNetRoutes$Plan;", true)
  | 1 => ("NetRoutes$Inputs", "packets", "LNetRoutes$Packets;", true)
  | 2 => ("NetRoutes$Inputs", "firstPacket", "[I", true)
  | 3 => ("NetRoutes$Inputs", "lastPacket", "[I", true)
  | 4 => ("NetRoutes$Inputs", "packetBehind", "[I", true)
  | 5 => ("NetRoutes$Inputs", "slots", "[I", true)
  | 6 => ("NetRoutes$Inputs", "size", "[I", true)
  | _ => ("NetRoutes$Inputs", "fresh", "[I", true)
def t_CI : Nat → FieldType := fun k => match k with
  | 0 => .object "NetRoutes$Plan"
  | 1 => .object "NetRoutes$Packets"
  | 2 => .array .int
  | 3 => .array .int
  | 4 => .array .int
  | 5 => .array .int
  | 6 => .array .int
  | _ => .array .int
theorem n_CI : ∀ a, a < 8 → ∀ b, b < 8 → a ≠ b → (F_CI a).2.1 ≠ (F_CI b).2.1 := by decide +kernel
theorem t_CI_ok : ∀ k, k < 8 → parseFieldDescriptor (F_CI k).2.2.1 = some (t_CI k) := by decide +kernel
def R_CT : String := "NetRoutes$Traffic"
def F_CT : u_T := fun k => match k with
  | 0 => ("NetRoutes$Traffic", "plan", "LNetRoutes$Plan;", true)
  | 1 => ("NetRoutes$Traffic", "packets", "LNetRoutes$Packets;", true)
  | 2 => ("NetRoutes$Traffic", "inputs", "LNetRoutes$Inputs;", true)
  | 3 => ("NetRoutes$Traffic", "holds", "[I", true)
  | 4 => ("NetRoutes$Traffic", "holder", "[I", true)
  | 5 => ("NetRoutes$Traffic", "heldFor", "[I", true)
  | 6 => ("NetRoutes$Traffic", "entered", "[I", true)
  | 7 => ("NetRoutes$Traffic", "lastLane", "[I", true)
  | 8 => ("NetRoutes$Traffic", "cycles", "I", false)
  | _ => ("NetRoutes$Traffic", "moved", "I", false)
def t_CT : Nat → FieldType := fun k => match k with
  | 0 => .object "NetRoutes$Plan"
  | 1 => .object "NetRoutes$Packets"
  | 2 => .object "NetRoutes$Inputs"
  | 3 => .array .int
  | 4 => .array .int
  | 5 => .array .int
  | 6 => .array .int
  | 7 => .array .int
  | 8 => .int
  | _ => .int
theorem n_CT : ∀ a, a < 10 → ∀ b, b < 10 → a ≠ b → (F_CT a).2.1 ≠ (F_CT b).2.1 := by decide +kernel
theorem t_CT_ok : ∀ k, k < 10 → parseFieldDescriptor (F_CT k).2.2.1 = some (t_CT k) := by decide +kernel
def R_CR : String := "NetRoutes$Rings"
def F_CR : u_T := fun k => match k with
  | 0 => ("NetRoutes$Rings", "plan", "LNetRoutes$Plan;", true)
  | 1 => ("NetRoutes$Rings", "firstStep", "[I", true)
  | 2 => ("NetRoutes$Rings", "nextStep", "[I", true)
  | 3 => ("NetRoutes$Rings", "toClose", "[I", true)
  | 4 => ("NetRoutes$Rings", "reached", "[I", true)
  | 5 => ("NetRoutes$Rings", "start", "I", false)
  | _ => ("NetRoutes$Rings", "length", "I", false)
def t_CR : Nat → FieldType := fun k => match k with
  | 0 => .object "NetRoutes$Plan"
  | 1 => .array .int
  | 2 => .array .int
  | 3 => .array .int
  | 4 => .array .int
  | 5 => .int
  | _ => .int
theorem n_CR : ∀ a, a < 7 → ∀ b, b < 7 → a ≠ b → (F_CR a).2.1 ≠ (F_CR b).2.1 := by decide +kernel
theorem t_CR_ok : ∀ k, k < 7 → parseFieldDescriptor (F_CR k).2.2.1 = some (t_CR k) := by decide +kernel
def R_M : String := "NetRoutesModel"
def F_M : u_T := fun k => match k with
  | 0 => ("NetRoutesModel", "thrown", "I", false)
  | 1 => ("NetRoutesModel", "x", "I", false)
  | 2 => ("NetRoutesModel", "nodes", "I", false)
  | 3 => ("NetRoutesModel", "links", "I", false)
  | 4 => ("NetRoutesModel", "packets", "I", false)
  | 5 => ("NetRoutesModel", "cycle", "I", false)
  | 6 => ("NetRoutesModel", "moved", "I", false)
  | 7 => ("NetRoutesModel", "left", "I", false)
  | 8 => ("NetRoutesModel", "arrived", "I", false)
  | 9 => ("NetRoutesModel", "from", "[I", true)
  | 10 => ("NetRoutesModel", "to", "[I", true)
  | 11 => ("NetRoutesModel", "width", "[I", true)
  | 12 => ("NetRoutesModel", "failed", "[Z", true)
  | 13 => ("NetRoutesModel", "last", "[I", true)
  | 14 => ("NetRoutesModel", "route", "[I", true)
  | 15 => ("NetRoutesModel", "source", "[I", true)
  | 16 => ("NetRoutesModel", "end", "[I", true)
  | 17 => ("NetRoutesModel", "size", "[I", true)
  | 18 => ("NetRoutesModel", "sent", "[I", true)
  | 19 => ("NetRoutesModel", "gone", "[I", true)
  | 20 => ("NetRoutesModel", "came", "[I", true)
  | 21 => ("NetRoutesModel", "filled", "[I", true)
  | 22 => ("NetRoutesModel", "flit", "[I", true)
  | 23 => ("NetRoutesModel", "since", "[I", true)
  | 24 => ("NetRoutesModel", "passed", "[I", true)
  | 25 => ("NetRoutesModel", "holder", "[I", true)
  | 26 => ("NetRoutesModel", "holding", "[I", true)
  | 27 => ("NetRoutesModel", "leads", "[Z", true)
  | 28 => ("NetRoutesModel", "away", "[I", true)
  | _ => ("NetRoutesModel", "ring", "[I", true)
def t_M : Nat → FieldType := fun k => match k with
  | 0 => .int
  | 1 => .int
  | 2 => .int
  | 3 => .int
  | 4 => .int
  | 5 => .int
  | 6 => .int
  | 7 => .int
  | 8 => .int
  | 9 => .array .int
  | 10 => .array .int
  | 11 => .array .int
  | 12 => .array .boolean
  | 13 => .array .int
  | 14 => .array .int
  | 15 => .array .int
  | 16 => .array .int
  | 17 => .array .int
  | 18 => .array .int
  | 19 => .array .int
  | 20 => .array .int
  | 21 => .array .int
  | 22 => .array .int
  | 23 => .array .int
  | 24 => .array .int
  | 25 => .array .int
  | 26 => .array .int
  | 27 => .array .boolean
  | 28 => .array .int
  | _ => .array .int
theorem n_M : ∀ a, a < 30 → ∀ b, b < 30 → a ≠ b → (F_M a).2.1 ≠ (F_M b).2.1 := by decide +kernel
theorem t_M_ok : ∀ k, k < 30 → parseFieldDescriptor (F_M k).2.2.1 = some (t_M k) := by decide +kernel
def R_Arrays : String := "java/util/Arrays"
abbrev b_fill : ByteArray := prog_17_method_103_code
def y_fill : MethodName := ⟨R_Arrays, "fill", "([II)V"⟩
abbrev b_CN_node : ByteArray := prog_1_method_2_code
def y_CN_node : MethodName := ⟨R_CN, "node", "()I"⟩
abbrev b_CP_hasNode : ByteArray := prog_4_method_2_code
def y_CP_hasNode : MethodName := ⟨R_CP, "hasNode", "(I)Z"⟩
abbrev b_CP_hasTwoNodes : ByteArray := prog_4_method_3_code
def y_CP_hasTwoNodes : MethodName := ⟨R_CP, "hasTwoNodes", "(II)Z"⟩
abbrev b_CP_addLink : ByteArray := prog_4_method_11_code
def y_CP_addLink : MethodName := ⟨R_CP, "addLink", "(III)I"⟩
abbrev b_CN_link : ByteArray := prog_1_method_3_code
def y_CN_link : MethodName := ⟨R_CN, "link", "(III)I"⟩
abbrev b_CP_wayAt : ByteArray := prog_4_method_9_code
def y_CP_wayAt : MethodName := ⟨R_CP, "wayAt", "(II)I"⟩
abbrev b_CP_changeWay : ByteArray := prog_4_method_10_code
def y_CP_changeWay : MethodName := ⟨R_CP, "changeWay", "(III)V"⟩
abbrev b_CP_hasLink : ByteArray := prog_4_method_4_code
def y_CP_hasLink : MethodName := ⟨R_CP, "hasLink", "(I)Z"⟩
abbrev b_CP_hasChannel : ByteArray := prog_4_method_5_code
def y_CP_hasChannel : MethodName := ⟨R_CP, "hasChannel", "(I)Z"⟩
abbrev b_CP_beginOf : ByteArray := prog_4_method_7_code
def y_CP_beginOf : MethodName := ⟨R_CP, "beginOf", "(I)I"⟩
abbrev b_CP_canBeTaken : ByteArray := prog_4_method_6_code
def y_CP_canBeTaken : MethodName := ⟨R_CP, "canBeTaken", "(II)Z"⟩
abbrev b_CN_route : ByteArray := prog_1_method_4_code
def y_CN_route : MethodName := ⟨R_CN, "route", "(III)I"⟩
abbrev b_CP_bringsNearer : ByteArray := prog_4_method_13_code
def y_CP_bringsNearer : MethodName := ⟨R_CP, "bringsNearer", "(II)Z"⟩
abbrev b_CP_makeWaysTo : ByteArray := prog_4_method_12_code
def y_CP_makeWaysTo : MethodName := ⟨R_CP, "makeWaysTo", "(I)I"⟩
abbrev b_CN_routes : ByteArray := prog_1_method_5_code
def y_CN_routes : MethodName := ⟨R_CN, "routes", "(I)I"⟩
abbrev b_CP_breakLink : ByteArray := prog_4_method_14_code
def y_CP_breakLink : MethodName := ⟨R_CP, "breakLink", "(I)I"⟩
abbrev b_CN_fail : ByteArray := prog_1_method_6_code
def y_CN_fail : MethodName := ⟨R_CN, "fail", "(I)I"⟩
abbrev b_CK_add : ByteArray := prog_3_method_2_code
def y_CK_add : MethodName := ⟨R_CK, "add", "(II)I"⟩
abbrev b_CI_lineUp : ByteArray := prog_2_method_7_code
def y_CI_lineUp : MethodName := ⟨R_CI, "lineUp", "(II)V"⟩
abbrev b_CN_addPacket : ByteArray := prog_1_method_16_code
def y_CN_addPacket : MethodName := ⟨R_CN, "addPacket", "(III)I"⟩
abbrev b_CN_send : ByteArray := prog_1_method_7_code
def y_CN_send : MethodName := ⟨R_CN, "send", "(III)I"⟩
abbrev b_CN_drawn : ByteArray := prog_1_method_17_code
def y_CN_drawn : MethodName := ⟨R_CN, "drawn", "()I"⟩
abbrev b_CN_load : ByteArray := prog_1_method_8_code
def y_CN_load : MethodName := ⟨R_CN, "load", "(I)I"⟩
abbrev b_CI_inUse : ByteArray := prog_2_method_2_code
def y_CI_inUse : MethodName := ⟨R_CI, "inUse", "()I"⟩
abbrev b_CK_firstWaiting : ByteArray := prog_3_method_3_code
def y_CK_firstWaiting : MethodName := ⟨R_CK, "firstWaiting", "(I)I"⟩
abbrev b_CI_frontOf : ByteArray := prog_2_method_5_code
def y_CI_frontOf : MethodName := ⟨R_CI, "frontOf", "(I)I"⟩
abbrev b_CK_isHead : ByteArray := prog_3_method_6_code
def y_CK_isHead : MethodName := ⟨R_CK, "isHead", "(I)Z"⟩
abbrev b_CP_endOf : ByteArray := prog_4_method_8_code
def y_CP_endOf : MethodName := ⟨R_CP, "endOf", "(I)I"⟩
abbrev b_CI_nodeOf : ByteArray := prog_2_method_3_code
def y_CI_nodeOf : MethodName := ⟨R_CI, "nodeOf", "(I)I"⟩
abbrev b_CK_endOf : ByteArray := prog_3_method_5_code
def y_CK_endOf : MethodName := ⟨R_CK, "endOf", "(I)I"⟩
abbrev b_CT_channelToGet : ByteArray := prog_6_method_6_code
def y_CT_channelToGet : MethodName := ⟨R_CT, "channelToGet", "(I)I"⟩
abbrev b_CK_packetOf : ByteArray := prog_3_method_4_code
def y_CK_packetOf : MethodName := ⟨R_CK, "packetOf", "(I)I"⟩
abbrev b_CT_askAll : ByteArray := prog_6_method_3_code
def y_CT_askAll : MethodName := ⟨R_CT, "askAll", "()Z"⟩
abbrev b_CI_hasRoom : ByteArray := prog_2_method_4_code
def y_CI_hasRoom : MethodName := ⟨R_CI, "hasRoom", "(I)Z"⟩
abbrev b_CT_canMoveInto : ByteArray := prog_6_method_8_code
def y_CT_canMoveInto : MethodName := ⟨R_CT, "canMoveInto", "(I)Z"⟩
abbrev b_CT_laneToMove : ByteArray := prog_6_method_7_code
def y_CT_laneToMove : MethodName := ⟨R_CT, "laneToMove", "(I)I"⟩
abbrev b_CI_dropFromBuffer : ByteArray := prog_2_method_11_code
def y_CI_dropFromBuffer : MethodName := ⟨R_CI, "dropFromBuffer", "(I)V"⟩
abbrev b_CI_dropFromQueue : ByteArray := prog_2_method_10_code
def y_CI_dropFromQueue : MethodName := ⟨R_CI, "dropFromQueue", "(I)V"⟩
abbrev b_CI_dropFront : ByteArray := prog_2_method_9_code
def y_CI_dropFront : MethodName := ⟨R_CI, "dropFront", "(I)V"⟩
abbrev b_CI_put : ByteArray := prog_2_method_8_code
def y_CI_put : MethodName := ⟨R_CI, "put", "(II)V"⟩
abbrev b_CK_isTail : ByteArray := prog_3_method_7_code
def y_CK_isTail : MethodName := ⟨R_CK, "isTail", "(I)Z"⟩
abbrev b_CT_moveInto : ByteArray := prog_6_method_9_code
def y_CT_moveInto : MethodName := ⟨R_CT, "moveInto", "(I)V"⟩
abbrev b_CT_moveAll : ByteArray := prog_6_method_4_code
def y_CT_moveAll : MethodName := ⟨R_CT, "moveAll", "()Z"⟩
abbrev b_CT_canLeave : ByteArray := prog_6_method_10_code
def y_CT_canLeave : MethodName := ⟨R_CT, "canLeave", "(I)Z"⟩
abbrev b_CK_leave : ByteArray := prog_3_method_8_code
def y_CK_leave : MethodName := ⟨R_CK, "leave", "(II)V"⟩
abbrev b_CT_leaveAll : ByteArray := prog_6_method_5_code
def y_CT_leaveAll : MethodName := ⟨R_CT, "leaveAll", "()Z"⟩
abbrev b_CI_endCycle : ByteArray := prog_2_method_12_code
def y_CI_endCycle : MethodName := ⟨R_CI, "endCycle", "()V"⟩
abbrev b_CT_goOneCycle : ByteArray := prog_6_method_2_code
def y_CT_goOneCycle : MethodName := ⟨R_CT, "goOneCycle", "()Z"⟩
abbrev b_CN_run : ByteArray := prog_1_method_9_code
def y_CN_run : MethodName := ⟨R_CN, "run", "(I)I"⟩
abbrev b_CN_packet : ByteArray := prog_1_method_10_code
def y_CN_packet : MethodName := ⟨R_CN, "packet", "(II)I"⟩
abbrev b_CI_frontPacketIn : ByteArray := prog_2_method_6_code
def y_CI_frontPacketIn : MethodName := ⟨R_CI, "frontPacketIn", "(I)I"⟩
abbrev b_CN_channel : ByteArray := prog_1_method_11_code
def y_CN_channel : MethodName := ⟨R_CN, "channel", "(II)I"⟩
abbrev b_CR_channelAfter : ByteArray := prog_5_method_4_code
def y_CR_channelAfter : MethodName := ⟨R_CR, "channelAfter", "(II)I"⟩
abbrev b_CR_gatherSteps : ByteArray := prog_5_method_3_code
def y_CR_gatherSteps : MethodName := ⟨R_CR, "gatherSteps", "()V"⟩
abbrev b_CR_closeAt : ByteArray := prog_5_method_5_code
def y_CR_closeAt : MethodName := ⟨R_CR, "closeAt", "(I)I"⟩
abbrev b_CR_search : ByteArray := prog_5_method_2_code
def y_CR_search : MethodName := ⟨R_CR, "search", "()V"⟩
abbrev b_CN_ring : ByteArray := prog_1_method_12_code
def y_CN_ring : MethodName := ⟨R_CN, "ring", "()I"⟩
abbrev b_CR_lowestThatCloses : ByteArray := prog_5_method_7_code
def y_CR_lowestThatCloses : MethodName := ⟨R_CR, "lowestThatCloses", "(II)I"⟩
abbrev b_CR_channelBehind : ByteArray := prog_5_method_6_code
def y_CR_channelBehind : MethodName := ⟨R_CR, "channelBehind", "(I)I"⟩
abbrev b_CN_ringAt : ByteArray := prog_1_method_13_code
def y_CN_ringAt : MethodName := ⟨R_CN, "ringAt", "(I)I"⟩
abbrev b_CT_isAtRest : ByteArray := prog_6_method_11_code
def y_CT_isAtRest : MethodName := ⟨R_CT, "isAtRest", "()Z"⟩
abbrev b_CN_stuck : ByteArray := prog_1_method_14_code
def y_CN_stuck : MethodName := ⟨R_CN, "stuck", "()Z"⟩
abbrev b_CK_sumOf : ByteArray := prog_3_method_12_code
def y_CK_sumOf : MethodName := ⟨R_CK, "sumOf", "([I)I"⟩
abbrev b_CK_flitsInQueues : ByteArray := prog_3_method_9_code
def y_CK_flitsInQueues : MethodName := ⟨R_CK, "flitsInQueues", "()I"⟩
abbrev b_CK_flitsInBuffers : ByteArray := prog_3_method_10_code
def y_CK_flitsInBuffers : MethodName := ⟨R_CK, "flitsInBuffers", "()I"⟩
abbrev b_CK_flitsLeft : ByteArray := prog_3_method_11_code
def y_CK_flitsLeft : MethodName := ⟨R_CK, "flitsLeft", "()I"⟩
abbrev b_CP_comesTo : ByteArray := prog_4_method_16_code
def y_CP_comesTo : MethodName := ⟨R_CP, "comesTo", "(II)Z"⟩
abbrev b_CP_pairsWithoutWay : ByteArray := prog_4_method_15_code
def y_CP_pairsWithoutWay : MethodName := ⟨R_CP, "pairsWithoutWay", "()I"⟩
abbrev b_CN_count : ByteArray := prog_1_method_15_code
def y_CN_count : MethodName := ⟨R_CN, "count", "(I)I"⟩
abbrev b_M_thrown : ByteArray := prog_8_method_2_code
def y_M_thrown : MethodName := ⟨R_M, "thrown", "()I"⟩
abbrev b_M_wrong : ByteArray := prog_8_method_3_code
def y_M_wrong : MethodName := ⟨R_M, "wrong", "(I)I"⟩
abbrev b_M_within : ByteArray := prog_8_method_4_code
def y_M_within : MethodName := ⟨R_M, "within", "(III)Z"⟩
abbrev b_M_isNode : ByteArray := prog_8_method_5_code
def y_M_isNode : MethodName := ⟨R_M, "isNode", "(I)Z"⟩
abbrev b_M_isChannel : ByteArray := prog_8_method_6_code
def y_M_isChannel : MethodName := ⟨R_M, "isChannel", "(I)Z"⟩
abbrev b_M_node : ByteArray := prog_8_method_7_code
def y_M_node : MethodName := ⟨R_M, "node", "()I"⟩
abbrev b_M_link : ByteArray := prog_8_method_8_code
def y_M_link : MethodName := ⟨R_M, "link", "(III)I"⟩
abbrev b_M_route : ByteArray := prog_8_method_9_code
def y_M_route : MethodName := ⟨R_M, "route", "(III)I"⟩
abbrev b_M_routes : ByteArray := prog_8_method_10_code
def y_M_routes : MethodName := ⟨R_M, "routes", "(I)I"⟩
abbrev b_M_fail : ByteArray := prog_8_method_11_code
def y_M_fail : MethodName := ⟨R_M, "fail", "(I)I"⟩
abbrev b_M_add : ByteArray := prog_8_method_12_code
def y_M_add : MethodName := ⟨R_M, "add", "(III)I"⟩
abbrev b_M_send : ByteArray := prog_8_method_13_code
def y_M_send : MethodName := ⟨R_M, "send", "(III)I"⟩
abbrev b_M_draw : ByteArray := prog_8_method_14_code
def y_M_draw : MethodName := ⟨R_M, "draw", "()I"⟩
abbrev b_M_load : ByteArray := prog_8_method_15_code
def y_M_load : MethodName := ⟨R_M, "load", "(I)I"⟩
abbrev b_M_front : ByteArray := prog_8_method_16_code
def y_M_front : MethodName := ⟨R_M, "front", "(I)I"⟩
abbrev b_M_take : ByteArray := prog_8_method_17_code
def y_M_take : MethodName := ⟨R_M, "take", "(II)V"⟩
abbrev b_M_nodeOf : ByteArray := prog_8_method_18_code
def y_M_nodeOf : MethodName := ⟨R_M, "nodeOf", "(I)I"⟩
abbrev b_M_isInput : ByteArray := prog_8_method_19_code
def y_M_isInput : MethodName := ⟨R_M, "isInput", "(II)Z"⟩
abbrev b_M_holds : ByteArray := prog_8_method_20_code
def y_M_holds : MethodName := ⟨R_M, "holds", "(I)Z"⟩
abbrev b_M_wanted : ByteArray := prog_8_method_21_code
def y_M_wanted : MethodName := ⟨R_M, "wanted", "(I)I"⟩
abbrev b_M_ask : ByteArray := prog_8_method_22_code
def y_M_ask : MethodName := ⟨R_M, "ask", "()V"⟩
abbrev b_M_mover : ByteArray := prog_8_method_23_code
def y_M_mover : MethodName := ⟨R_M, "mover", "(I)I"⟩
abbrev b_M_move : ByteArray := prog_8_method_24_code
def y_M_move : MethodName := ⟨R_M, "move", "(I)V"⟩
abbrev b_M_leave : ByteArray := prog_8_method_25_code
def y_M_leave : MethodName := ⟨R_M, "leave", "(II)V"⟩
abbrev b_M_step : ByteArray := prog_8_method_26_code
def y_M_step : MethodName := ⟨R_M, "step", "()V"⟩
abbrev b_M_isEmpty : ByteArray := prog_8_method_27_code
def y_M_isEmpty : MethodName := ⟨R_M, "isEmpty", "()Z"⟩
abbrev b_M_run : ByteArray := prog_8_method_28_code
def y_M_run : MethodName := ⟨R_M, "run", "(I)I"⟩
abbrev b_M_flitsIn : ByteArray := prog_8_method_29_code
def y_M_flitsIn : MethodName := ⟨R_M, "flitsIn", "(II)I"⟩
abbrev b_M_packet : ByteArray := prog_8_method_30_code
def y_M_packet : MethodName := ⟨R_M, "packet", "(II)I"⟩
abbrev b_M_channel : ByteArray := prog_8_method_31_code
def y_M_channel : MethodName := ⟨R_M, "channel", "(II)I"⟩
abbrev b_M_findLeads : ByteArray := prog_8_method_32_code
def y_M_findLeads : MethodName := ⟨R_M, "findLeads", "()V"⟩
abbrev b_M_measure : ByteArray := prog_8_method_33_code
def y_M_measure : MethodName := ⟨R_M, "measure", "(I)V"⟩
abbrev b_M_findRing : ByteArray := prog_8_method_34_code
def y_M_findRing : MethodName := ⟨R_M, "findRing", "()I"⟩
abbrev b_M_ring : ByteArray := prog_8_method_35_code
def y_M_ring : MethodName := ⟨R_M, "ring", "()I"⟩
abbrev b_M_ringAt : ByteArray := prog_8_method_36_code
def y_M_ringAt : MethodName := ⟨R_M, "ringAt", "(I)I"⟩
abbrev b_M_stuck : ByteArray := prog_8_method_37_code
def y_M_stuck : MethodName := ⟨R_M, "stuck", "()Z"⟩
abbrev b_M_hasWay : ByteArray := prog_8_method_38_code
def y_M_hasWay : MethodName := ⟨R_M, "hasWay", "(II)Z"⟩
abbrev b_M_count : ByteArray := prog_8_method_39_code
def y_M_count : MethodName := ⟨R_M, "count", "(I)I"⟩
def TT : List Cond :=
  [.fieldLink R_CP 37 R_CP "nodes" "I",
   .methodLink R_CP 41 y_CP_hasNode,
   .instanceMethod y_CP_hasNode,
   .selects R_CP y_CP_hasNode y_CP_hasNode,
   .initialized R_CP,
   .code y_CP_hasNode b_CP_hasNode 2 (some .boolean),
   .fieldLink R_CP 45 R_CP "links" "I",
   .fieldLink R_CP 9 R_CP "begin" "[I",
   .fieldLink R_CP 15 R_CP "end" "[I",
   .fieldLink R_CP 18 R_CP "lanes" "[I",
   .fieldLink R_CP 25 R_CP "ways" "[I",
   .methodLink R_CP 48 y_CP_hasLink,
   .instanceMethod y_CP_hasLink,
   .selects R_CP y_CP_hasLink y_CP_hasLink,
   .code y_CP_hasLink b_CP_hasLink 2 (some .boolean),
   .fieldLink R_CP 21 R_CP "failed" "[Z",
   .methodLink R_CP 54 y_CP_beginOf,
   .instanceMethod y_CP_beginOf,
   .selects R_CP y_CP_beginOf y_CP_beginOf,
   .code y_CP_beginOf b_CP_beginOf 2 (some .int),
   .methodLink R_CP 51 y_CP_hasChannel,
   .instanceMethod y_CP_hasChannel,
   .selects R_CP y_CP_hasChannel y_CP_hasChannel,
   .code y_CP_hasChannel b_CP_hasChannel 2 (some .boolean),
   .fieldLink R_CP 28 R_CP "distance" "[I",
   .methodLink R_CP 31 y_fill,
   .static y_fill,
   .initialized R_Arrays,
   .code y_fill b_fill 4 none,
   .methodLink R_CP 58 y_CP_changeWay,
   .instanceMethod y_CP_changeWay,
   .selects R_CP y_CP_changeWay y_CP_changeWay,
   .code y_CP_changeWay b_CP_changeWay 4 none,
   .methodLink R_CP 62 y_CP_bringsNearer,
   .instanceMethod y_CP_bringsNearer,
   .selects R_CP y_CP_bringsNearer y_CP_bringsNearer,
   .code y_CP_bringsNearer b_CP_bringsNearer 3 (some .boolean),
   .fieldLink R_CK 27 R_CK "many" "I",
   .fieldLink R_CK 9 R_CK "end" "[I",
   .fieldLink R_CK 15 R_CK "flits" "[I",
   .fieldLink R_CK 18 R_CK "waiting" "[I",
   .fieldLink R_CI 9 R_CI "firstPacket" "[I",
   .fieldLink R_CI 18 R_CI "packetBehind" "[I",
   .fieldLink R_CI 15 R_CI "lastPacket" "[I",
   .fieldLink R_CN 23 R_CN "packets" "LNetRoutes$Packets;",
   .fieldLink R_CN 32 R_CN "inputs" "LNetRoutes$Inputs;",
   .methodLink R_CN 229 y_CI_lineUp,
   .instanceMethod y_CI_lineUp,
   .selects R_CI y_CI_lineUp y_CI_lineUp,
   .initialized R_CI,
   .code y_CI_lineUp b_CI_lineUp 3 none,
   .methodLink R_CN 226 y_CK_add,
   .instanceMethod y_CK_add,
   .selects R_CK y_CK_add y_CK_add,
   .initialized R_CK,
   .code y_CK_add b_CK_add 4 (some .int),
   .fieldLink R_CN 9 R_CN "seed" "I",
   .fieldLink R_CI 30 R_CI "plan" "LNetRoutes$Plan;",
   .fieldLink R_CI 44 R_CP "links" "I",
   .fieldLink R_CI 34 R_CI "packets" "LNetRoutes$Packets;",
   .methodLink R_CI 54 y_CK_firstWaiting,
   .instanceMethod y_CK_firstWaiting,
   .selects R_CK y_CK_firstWaiting y_CK_firstWaiting,
   .code y_CK_firstWaiting b_CK_firstWaiting 2 (some .int),
   .fieldLink R_CI 24 R_CI "size" "[I",
   .fieldLink R_CI 27 R_CI "fresh" "[I",
   .fieldLink R_CI 21 R_CI "slots" "[I",
   .methodLink R_CI 50 y_CP_endOf,
   .instanceMethod y_CP_endOf,
   .selects R_CP y_CP_endOf y_CP_endOf,
   .code y_CP_endOf b_CP_endOf 2 (some .int),
   .fieldLink R_CT 35 R_CT "inputs" "LNetRoutes$Inputs;",
   .fieldLink R_CT 31 R_CT "packets" "LNetRoutes$Packets;",
   .fieldLink R_CT 9 R_CT "holds" "[I",
   .fieldLink R_CT 27 R_CT "plan" "LNetRoutes$Plan;",
   .fieldLink R_CT 15 R_CT "holder" "[I",
   .methodLink R_CT 112 y_CP_wayAt,
   .instanceMethod y_CP_wayAt,
   .selects R_CP y_CP_wayAt y_CP_wayAt,
   .code y_CP_wayAt b_CP_wayAt 3 (some .int),
   .methodLink R_CT 109 y_CK_endOf,
   .instanceMethod y_CK_endOf,
   .selects R_CK y_CK_endOf y_CK_endOf,
   .code y_CK_endOf b_CK_endOf 2 (some .int),
   .methodLink R_CT 106 y_CI_nodeOf,
   .instanceMethod y_CI_nodeOf,
   .selects R_CI y_CI_nodeOf y_CI_nodeOf,
   .code y_CI_nodeOf b_CI_nodeOf 2 (some .int),
   .methodLink R_CT 103 y_CK_isHead,
   .instanceMethod y_CK_isHead,
   .selects R_CK y_CK_isHead y_CK_isHead,
   .code y_CK_isHead b_CK_isHead 2 (some .boolean),
   .methodLink R_CT 72 y_CI_frontOf,
   .instanceMethod y_CI_frontOf,
   .selects R_CI y_CI_frontOf y_CI_frontOf,
   .code y_CI_frontOf b_CI_frontOf 3 (some .int),
   .fieldLink R_CT 18 R_CT "heldFor" "[I",
   .methodLink R_CT 75 y_CK_packetOf,
   .instanceMethod y_CK_packetOf,
   .selects R_CK y_CK_packetOf y_CK_packetOf,
   .code y_CK_packetOf b_CK_packetOf 2 (some .int),
   .methodLink R_CT 68 y_CT_channelToGet,
   .instanceMethod y_CT_channelToGet,
   .selects R_CT y_CT_channelToGet y_CT_channelToGet,
   .initialized R_CT,
   .code y_CT_channelToGet b_CT_channelToGet 4 (some .int),
   .methodLink R_CT 64 y_CI_inUse,
   .instanceMethod y_CI_inUse,
   .selects R_CI y_CI_inUse y_CI_inUse,
   .code y_CI_inUse b_CI_inUse 1 (some .int),
   .methodLink R_CT 122 y_CI_hasRoom,
   .instanceMethod y_CI_hasRoom,
   .selects R_CI y_CI_hasRoom y_CI_hasRoom,
   .code y_CI_hasRoom b_CI_hasRoom 2 (some .boolean),
   .fieldLink R_CT 24 R_CT "lastLane" "[I",
   .fieldLink R_CT 116 R_CP "lanes" "[I",
   .methodLink R_CT 119 y_CT_canMoveInto,
   .instanceMethod y_CT_canMoveInto,
   .selects R_CT y_CT_canMoveInto y_CT_canMoveInto,
   .code y_CT_canMoveInto b_CT_canMoveInto 3 (some .boolean),
   .fieldLink R_CI 69 R_CK "waiting" "[I",
   .methodLink R_CI 66 y_CI_dropFromBuffer,
   .instanceMethod y_CI_dropFromBuffer,
   .selects R_CI y_CI_dropFromBuffer y_CI_dropFromBuffer,
   .code y_CI_dropFromBuffer b_CI_dropFromBuffer 4 none,
   .methodLink R_CI 62 y_CI_dropFromQueue,
   .instanceMethod y_CI_dropFromQueue,
   .selects R_CI y_CI_dropFromQueue y_CI_dropFromQueue,
   .code y_CI_dropFromQueue b_CI_dropFromQueue 3 none,
   .fieldLink R_CT 21 R_CT "entered" "[I",
   .fieldLink R_CT 128 R_CT "moved" "I",
   .methodLink R_CT 131 y_CK_isTail,
   .instanceMethod y_CK_isTail,
   .selects R_CK y_CK_isTail y_CK_isTail,
   .code y_CK_isTail b_CK_isTail 2 (some .boolean),
   .methodLink R_CT 125 y_CI_put,
   .instanceMethod y_CI_put,
   .selects R_CI y_CI_put y_CI_put,
   .code y_CI_put b_CI_put 3 none,
   .methodLink R_CT 100 y_CI_dropFront,
   .instanceMethod y_CI_dropFront,
   .selects R_CI y_CI_dropFront y_CI_dropFront,
   .code y_CI_dropFront b_CI_dropFront 2 none,
   .fieldLink R_CT 80 R_CP "links" "I",
   .methodLink R_CT 88 y_CT_moveInto,
   .instanceMethod y_CT_moveInto,
   .selects R_CT y_CT_moveInto y_CT_moveInto,
   .code y_CT_moveInto b_CT_moveInto 4 none,
   .methodLink R_CT 85 y_CT_laneToMove,
   .instanceMethod y_CT_laneToMove,
   .selects R_CT y_CT_laneToMove y_CT_laneToMove,
   .code y_CT_laneToMove b_CT_laneToMove 4 (some .int),
   .fieldLink R_CK 21 R_CK "left" "[I",
   .fieldLink R_CK 24 R_CK "arrivedIn" "[I",
   .fieldLink R_CK 39 R_CK "arrived" "I",
   .methodLink R_CK 35 y_CK_isTail,
   .methodLink R_CK 31 y_CK_packetOf,
   .fieldLink R_CT 45 R_CT "cycles" "I",
   .methodLink R_CT 96 y_CK_leave,
   .instanceMethod y_CK_leave,
   .selects R_CK y_CK_leave y_CK_leave,
   .code y_CK_leave b_CK_leave 4 none,
   .methodLink R_CT 92 y_CT_canLeave,
   .instanceMethod y_CT_canLeave,
   .selects R_CT y_CT_canLeave y_CT_canLeave,
   .code y_CT_canLeave b_CT_canLeave 3 (some .boolean),
   .methodLink R_CI 38 y_fill,
   .methodLink R_CT 59 y_CI_endCycle,
   .instanceMethod y_CI_endCycle,
   .selects R_CI y_CI_endCycle y_CI_endCycle,
   .code y_CI_endCycle b_CI_endCycle 1 none,
   .methodLink R_CT 56 y_CT_leaveAll,
   .instanceMethod y_CT_leaveAll,
   .selects R_CT y_CT_leaveAll y_CT_leaveAll,
   .code y_CT_leaveAll b_CT_leaveAll 3 (some .boolean),
   .methodLink R_CT 53 y_CT_moveAll,
   .instanceMethod y_CT_moveAll,
   .selects R_CT y_CT_moveAll y_CT_moveAll,
   .code y_CT_moveAll b_CT_moveAll 4 (some .boolean),
   .methodLink R_CT 49 y_CT_askAll,
   .instanceMethod y_CT_askAll,
   .selects R_CT y_CT_askAll y_CT_askAll,
   .code y_CT_askAll b_CT_askAll 4 (some .boolean),
   .methodLink R_CI 59 y_CK_packetOf,
   .fieldLink R_CR 24 R_CR "plan" "LNetRoutes$Plan;",
   .methodLink R_CR 56 y_CP_wayAt,
   .methodLink R_CR 63 y_CP_endOf,
   .fieldLink R_CR 9 R_CR "firstStep" "[I",
   .methodLink R_CR 47 y_fill,
   .fieldLink R_CR 53 R_CP "nodes" "I",
   .fieldLink R_CR 15 R_CR "nextStep" "[I",
   .methodLink R_CR 60 y_CR_channelAfter,
   .instanceMethod y_CR_channelAfter,
   .selects R_CR y_CR_channelAfter y_CR_channelAfter,
   .initialized R_CR,
   .code y_CR_channelAfter b_CR_channelAfter 3 (some .int),
   .fieldLink R_CR 18 R_CR "toClose" "[I",
   .fieldLink R_CR 21 R_CR "reached" "[I",
   .fieldLink R_CR 66 R_CP "ways" "[I",
   .fieldLink R_CR 31 R_CR "start" "I",
   .fieldLink R_CR 35 R_CR "length" "I",
   .fieldLink R_CR 38 R_CP "links" "I",
   .methodLink R_CR 43 y_CR_closeAt,
   .instanceMethod y_CR_closeAt,
   .selects R_CR y_CR_closeAt y_CR_closeAt,
   .code y_CR_closeAt b_CR_closeAt 8 (some .int),
   .methodLink R_CR 28 y_CR_gatherSteps,
   .instanceMethod y_CR_gatherSteps,
   .selects R_CR y_CR_gatherSteps y_CR_gatherSteps,
   .code y_CR_gatherSteps b_CR_gatherSteps 5 none,
   .fieldLink R_CN 50 R_CN "rings" "LNetRoutes$Rings;",
   .fieldLink R_CN 200 R_CR "length" "I",
   .methodLink R_CN 197 y_CR_search,
   .instanceMethod y_CR_search,
   .selects R_CR y_CR_search y_CR_search,
   .code y_CR_search b_CR_search 3 none,
   .methodLink R_CR 72 y_CP_beginOf,
   .methodLink R_CR 69 y_CR_lowestThatCloses,
   .instanceMethod y_CR_lowestThatCloses,
   .selects R_CR y_CR_lowestThatCloses y_CR_lowestThatCloses,
   .code y_CR_lowestThatCloses b_CR_lowestThatCloses 7 (some .int),
   .fieldLink R_CN 148 R_CK "arrived" "I",
   .fieldLink R_CN 125 R_CK "many" "I",
   .fieldLink R_CN 41 R_CN "traffic" "LNetRoutes$Traffic;",
   .methodLink R_CN 208 y_CT_isAtRest,
   .instanceMethod y_CT_isAtRest,
   .selects R_CT y_CT_isAtRest y_CT_isAtRest,
   .code y_CT_isAtRest b_CT_isAtRest 2 (some .boolean),
   .methodLink R_CK 42 y_CK_sumOf,
   .instanceMethod y_CK_sumOf,
   .selects R_CK y_CK_sumOf y_CK_sumOf,
   .code y_CK_sumOf b_CK_sumOf 4 (some .int),
   .methodLink R_CP 73 y_CP_endOf,
   .methodLink R_CP 69 y_CP_wayAt,
   .methodLink R_CP 66 y_CP_comesTo,
   .instanceMethod y_CP_comesTo,
   .selects R_CP y_CP_comesTo y_CP_comesTo,
   .code y_CP_comesTo b_CP_comesTo 6 (some .boolean),
   .fieldLink R_CN 16 R_CN "plan" "LNetRoutes$Plan;",
   .fieldLink R_CN 54 R_CP "nodes" "I",
   .fieldLink R_CN 75 R_CP "links" "I",
   .fieldLink R_CN 155 R_CT "cycles" "I",
   .methodLink R_CN 211 y_CK_flitsInQueues,
   .instanceMethod y_CK_flitsInQueues,
   .selects R_CK y_CK_flitsInQueues y_CK_flitsInQueues,
   .code y_CK_flitsInQueues b_CK_flitsInQueues 1 (some .int),
   .methodLink R_CN 214 y_CK_flitsInBuffers,
   .instanceMethod y_CK_flitsInBuffers,
   .selects R_CK y_CK_flitsInBuffers y_CK_flitsInBuffers,
   .code y_CK_flitsInBuffers b_CK_flitsInBuffers 1 (some .int),
   .fieldLink R_CN 217 R_CT "moved" "I",
   .methodLink R_CN 220 y_CK_flitsLeft,
   .instanceMethod y_CK_flitsLeft,
   .selects R_CK y_CK_flitsLeft y_CK_flitsLeft,
   .code y_CK_flitsLeft b_CK_flitsLeft 1 (some .int),
   .methodLink R_CN 223 y_CP_pairsWithoutWay,
   .instanceMethod y_CP_pairsWithoutWay,
   .selects R_CP y_CP_pairsWithoutWay y_CP_pairsWithoutWay,
   .code y_CP_pairsWithoutWay b_CP_pairsWithoutWay 4 (some .int),
   .fieldLink R_M 78 R_M "thrown" "I",
   .fieldLink R_M 81 R_M "nodes" "I",
   .methodLink R_M 84 y_M_within,
   .static y_M_within,
   .initialized R_M,
   .code y_M_within b_M_within 3 (some .boolean),
   .fieldLink R_M 88 R_M "links" "I",
   .fieldLink R_M 16 R_M "width" "[I",
   .methodLink R_M 91 y_M_wrong,
   .instanceMethod y_M_wrong,
   .selects R_M y_M_wrong y_M_wrong,
   .code y_M_wrong b_M_wrong 2 (some .int),
   .fieldLink R_M 7 R_M "from" "[I",
   .fieldLink R_M 13 R_M "to" "[I",
   .methodLink R_M 95 y_M_isNode,
   .instanceMethod y_M_isNode,
   .selects R_M y_M_isNode y_M_isNode,
   .code y_M_isNode b_M_isNode 2 (some .boolean),
   .fieldLink R_M 26 R_M "route" "[I",
   .fieldLink R_M 19 R_M "failed" "[Z",
   .methodLink R_M 99 y_M_isChannel,
   .instanceMethod y_M_isChannel,
   .selects R_M y_M_isChannel y_M_isChannel,
   .code y_M_isChannel b_M_isChannel 2 (some .boolean),
   .fieldLink R_M 68 R_M "away" "[I",
   .fieldLink R_M 102 R_M "packets" "I",
   .fieldLink R_M 29 R_M "source" "[I",
   .fieldLink R_M 32 R_M "end" "[I",
   .fieldLink R_M 35 R_M "size" "[I",
   .methodLink R_M 105 y_M_add,
   .instanceMethod y_M_add,
   .selects R_M y_M_add y_M_add,
   .code y_M_add b_M_add 5 (some .int),
   .fieldLink R_M 74 R_M "x" "I",
   .methodLink R_M 112 y_M_draw,
   .instanceMethod y_M_draw,
   .selects R_M y_M_draw y_M_draw,
   .code y_M_draw b_M_draw 1 (some .int),
   .fieldLink R_M 38 R_M "sent" "[I",
   .fieldLink R_M 47 R_M "filled" "[I",
   .fieldLink R_M 53 R_M "since" "[I",
   .fieldLink R_M 116 R_M "cycle" "I",
   .fieldLink R_M 50 R_M "flit" "[I",
   .methodLink R_M 119 y_M_nodeOf,
   .instanceMethod y_M_nodeOf,
   .selects R_M y_M_nodeOf y_M_nodeOf,
   .code y_M_nodeOf b_M_nodeOf 2 (some .int),
   .fieldLink R_M 59 R_M "holder" "[I",
   .methodLink R_M 125 y_M_holds,
   .instanceMethod y_M_holds,
   .selects R_M y_M_holds y_M_holds,
   .code y_M_holds b_M_holds 4 (some .boolean),
   .methodLink R_M 122 y_M_front,
   .instanceMethod y_M_front,
   .selects R_M y_M_front y_M_front,
   .code y_M_front b_M_front 3 (some .int),
   .fieldLink R_M 62 R_M "holding" "[I",
   .methodLink R_M 132 y_M_wanted,
   .instanceMethod y_M_wanted,
   .selects R_M y_M_wanted y_M_wanted,
   .code y_M_wanted b_M_wanted 5 (some .int),
   .methodLink R_M 128 y_M_isInput,
   .instanceMethod y_M_isInput,
   .selects R_M y_M_isInput y_M_isInput,
   .code y_M_isInput b_M_isInput 3 (some .boolean),
   .fieldLink R_M 23 R_M "last" "[I",
   .fieldLink R_M 142 R_M "moved" "I",
   .fieldLink R_M 56 R_M "passed" "[I",
   .methodLink R_M 138 y_M_take,
   .instanceMethod y_M_take,
   .selects R_M y_M_take y_M_take,
   .code y_M_take b_M_take 5 none,
   .methodLink R_M 135 y_M_mover,
   .instanceMethod y_M_mover,
   .selects R_M y_M_mover y_M_mover,
   .code y_M_mover b_M_mover 4 (some .int),
   .fieldLink R_M 41 R_M "gone" "[I",
   .fieldLink R_M 145 R_M "left" "I",
   .fieldLink R_M 44 R_M "came" "[I",
   .fieldLink R_M 148 R_M "arrived" "I",
   .methodLink R_M 158 y_M_leave,
   .instanceMethod y_M_leave,
   .selects R_M y_M_leave y_M_leave,
   .code y_M_leave b_M_leave 4 none,
   .methodLink R_M 154 y_M_move,
   .instanceMethod y_M_move,
   .selects R_M y_M_move y_M_move,
   .code y_M_move b_M_move 4 none,
   .methodLink R_M 151 y_M_ask,
   .instanceMethod y_M_ask,
   .selects R_M y_M_ask y_M_ask,
   .code y_M_ask b_M_ask 4 none,
   .methodLink R_M 165 y_M_step,
   .instanceMethod y_M_step,
   .selects R_M y_M_step y_M_step,
   .code y_M_step b_M_step 3 none,
   .methodLink R_M 161 y_M_isEmpty,
   .instanceMethod y_M_isEmpty,
   .selects R_M y_M_isEmpty y_M_isEmpty,
   .code y_M_isEmpty b_M_isEmpty 1 (some .boolean),
   .methodLink R_M 168 y_M_flitsIn,
   .instanceMethod y_M_flitsIn,
   .selects R_M y_M_flitsIn y_M_flitsIn,
   .code y_M_flitsIn b_M_flitsIn 3 (some .int),
   .fieldLink R_M 65 R_M "leads" "[Z",
   .fieldLink R_M 71 R_M "ring" "[I",
   .methodLink R_M 175 y_M_measure,
   .instanceMethod y_M_measure,
   .selects R_M y_M_measure y_M_measure,
   .code y_M_measure b_M_measure 7 none,
   .methodLink R_M 172 y_M_findLeads,
   .instanceMethod y_M_findLeads,
   .selects R_M y_M_findLeads y_M_findLeads,
   .code y_M_findLeads b_M_findLeads 6 none,
   .methodLink R_M 178 y_M_findRing,
   .instanceMethod y_M_findRing,
   .selects R_M y_M_findRing y_M_findRing,
   .code y_M_findRing b_M_findRing 6 (some .int),
   .methodLink R_M 181 y_M_hasWay,
   .instanceMethod y_M_hasWay,
   .selects R_M y_M_hasWay y_M_hasWay,
   .code y_M_hasWay b_M_hasWay 6 (some .boolean),
   .laysFinal R_CN R_CN "plan" "LNetRoutes$Plan;",
   .laysFinal R_CN R_CN "packets" "LNetRoutes$Packets;",
   .laysFinal R_CN R_CN "inputs" "LNetRoutes$Inputs;",
   .laysFinal R_CN R_CN "traffic" "LNetRoutes$Traffic;",
   .laysFinal R_CN R_CN "rings" "LNetRoutes$Rings;",
   .lays R_CN R_CN "seed" "I",
   .lays R_CP R_CP "nodes" "I",
   .lays R_CP R_CP "links" "I",
   .laysFinal R_CP R_CP "begin" "[I",
   .laysFinal R_CP R_CP "end" "[I",
   .laysFinal R_CP R_CP "lanes" "[I",
   .laysFinal R_CP R_CP "failed" "[Z",
   .laysFinal R_CP R_CP "ways" "[I",
   .laysFinal R_CP R_CP "distance" "[I",
   .lays R_CK R_CK "many" "I",
   .lays R_CK R_CK "arrived" "I",
   .laysFinal R_CK R_CK "end" "[I",
   .laysFinal R_CK R_CK "flits" "[I",
   .laysFinal R_CK R_CK "waiting" "[I",
   .laysFinal R_CK R_CK "left" "[I",
   .laysFinal R_CK R_CK "arrivedIn" "[I",
   .laysFinal R_CI R_CI "plan" "LNetRoutes$Plan;",
   .laysFinal R_CI R_CI "packets" "LNetRoutes$Packets;",
   .laysFinal R_CI R_CI "firstPacket" "[I",
   .laysFinal R_CI R_CI "lastPacket" "[I",
   .laysFinal R_CI R_CI "packetBehind" "[I",
   .laysFinal R_CI R_CI "slots" "[I",
   .laysFinal R_CI R_CI "size" "[I",
   .laysFinal R_CI R_CI "fresh" "[I",
   .laysFinal R_CT R_CT "plan" "LNetRoutes$Plan;",
   .laysFinal R_CT R_CT "packets" "LNetRoutes$Packets;",
   .laysFinal R_CT R_CT "inputs" "LNetRoutes$Inputs;",
   .laysFinal R_CT R_CT "holds" "[I",
   .laysFinal R_CT R_CT "holder" "[I",
   .laysFinal R_CT R_CT "heldFor" "[I",
   .laysFinal R_CT R_CT "entered" "[I",
   .laysFinal R_CT R_CT "lastLane" "[I",
   .lays R_CT R_CT "cycles" "I",
   .lays R_CT R_CT "moved" "I",
   .laysFinal R_CR R_CR "plan" "LNetRoutes$Plan;",
   .laysFinal R_CR R_CR "firstStep" "[I",
   .laysFinal R_CR R_CR "nextStep" "[I",
   .laysFinal R_CR R_CR "toClose" "[I",
   .laysFinal R_CR R_CR "reached" "[I",
   .lays R_CR R_CR "start" "I",
   .lays R_CR R_CR "length" "I",
   .lays R_M R_M "thrown" "I",
   .lays R_M R_M "x" "I",
   .lays R_M R_M "nodes" "I",
   .lays R_M R_M "links" "I",
   .lays R_M R_M "packets" "I",
   .lays R_M R_M "cycle" "I",
   .lays R_M R_M "moved" "I",
   .lays R_M R_M "left" "I",
   .lays R_M R_M "arrived" "I",
   .laysFinal R_M R_M "from" "[I",
   .laysFinal R_M R_M "to" "[I",
   .laysFinal R_M R_M "width" "[I",
   .laysFinal R_M R_M "failed" "[Z",
   .laysFinal R_M R_M "last" "[I",
   .laysFinal R_M R_M "route" "[I",
   .laysFinal R_M R_M "source" "[I",
   .laysFinal R_M R_M "end" "[I",
   .laysFinal R_M R_M "size" "[I",
   .laysFinal R_M R_M "sent" "[I",
   .laysFinal R_M R_M "gone" "[I",
   .laysFinal R_M R_M "came" "[I",
   .laysFinal R_M R_M "filled" "[I",
   .laysFinal R_M R_M "flit" "[I",
   .laysFinal R_M R_M "since" "[I",
   .laysFinal R_M R_M "passed" "[I",
   .laysFinal R_M R_M "holder" "[I",
   .laysFinal R_M R_M "holding" "[I",
   .laysFinal R_M R_M "leads" "[Z",
   .laysFinal R_M R_M "away" "[I",
   .laysFinal R_M R_M "ring" "[I",
   .code y_CN_node b_CN_node 1 (some .int),
   .code y_CP_hasTwoNodes b_CP_hasTwoNodes 3 (some .boolean),
   .code y_CP_addLink b_CP_addLink 5 (some .int),
   .code y_CN_link b_CN_link 4 (some .int),
   .code y_CP_canBeTaken b_CP_canBeTaken 3 (some .boolean),
   .code y_CN_route b_CN_route 5 (some .int),
   .code y_CP_makeWaysTo b_CP_makeWaysTo 5 (some .int),
   .code y_CN_routes b_CN_routes 2 (some .int),
   .code y_CP_breakLink b_CP_breakLink 4 (some .int),
   .code y_CN_fail b_CN_fail 2 (some .int),
   .code y_CN_addPacket b_CN_addPacket 5 (some .int),
   .code y_CN_send b_CN_send 4 (some .int),
   .code y_CN_drawn b_CN_drawn 1 (some .int),
   .code y_CN_load b_CN_load 6 (some .int),
   .code y_CT_goOneCycle b_CT_goOneCycle 4 (some .boolean),
   .code y_CN_run b_CN_run 5 (some .int),
   .code y_CN_packet b_CN_packet 3 (some .int),
   .code y_CI_frontPacketIn b_CI_frontPacketIn 2 (some .int),
   .code y_CN_channel b_CN_channel 3 (some .int),
   .code y_CN_ring b_CN_ring 1 (some .int),
   .code y_CR_channelBehind b_CR_channelBehind 4 (some .int),
   .code y_CN_ringAt b_CN_ringAt 2 (some .int),
   .code y_CN_stuck b_CN_stuck 1 (some .boolean),
   .code y_CN_count b_CN_count 2 (some .int),
   .code y_M_thrown b_M_thrown 1 (some .int),
   .code y_M_node b_M_node 1 (some .int),
   .code y_M_link b_M_link 4 (some .int),
   .code y_M_route b_M_route 5 (some .int),
   .code y_M_routes b_M_routes 7 (some .int),
   .code y_M_fail b_M_fail 4 (some .int),
   .code y_M_send b_M_send 4 (some .int),
   .code y_M_load b_M_load 5 (some .int),
   .code y_M_run b_M_run 4 (some .int),
   .code y_M_packet b_M_packet 3 (some .int),
   .code y_M_channel b_M_channel 3 (some .int),
   .code y_M_ring b_M_ring 1 (some .int),
   .code y_M_ringAt b_M_ringAt 3 (some .int),
   .code y_M_stuck b_M_stuck 5 (some .boolean),
   .code y_M_count b_M_count 5 (some .int)]
set_option maxRecDepth 100000 in
theorem TT_all : TT.all goodWord = true := by decide +kernel
set_option maxRecDepth 100000 in
theorem in_CN : ∀ w ∈ u_ws R_CN F_CN 6, w ∈ TT := by decide +kernel
set_option maxRecDepth 100000 in
theorem in_CP : ∀ w ∈ u_ws R_CP F_CP 8, w ∈ TT := by decide +kernel
set_option maxRecDepth 100000 in
theorem in_CK : ∀ w ∈ u_ws R_CK F_CK 7, w ∈ TT := by decide +kernel
set_option maxRecDepth 100000 in
theorem in_CI : ∀ w ∈ u_ws R_CI F_CI 8, w ∈ TT := by decide +kernel
set_option maxRecDepth 100000 in
theorem in_CT : ∀ w ∈ u_ws R_CT F_CT 10, w ∈ TT := by decide +kernel
set_option maxRecDepth 100000 in
theorem in_CR : ∀ w ∈ u_ws R_CR F_CR 7, w ∈ TT := by decide +kernel
set_option maxRecDepth 100000 in
theorem in_M : ∀ w ∈ u_ws R_M F_M 30, w ∈ TT := by decide +kernel
abbrev clsT : List vw_C := [(R_CN, F_CN, 6), (R_CP, F_CP, 8), (R_CK, F_CK, 7), (R_CI, F_CI, 8), (R_CT, F_CT, 10), (R_CR, F_CR, 7), (R_M, F_M, 30)]
abbrev tyT (cI cZ : ClassId) : List (ClassId × FieldType) := [(cI, .int), (cZ, .boolean)]
end
section
/-! What every walk of ours stands on: states as numbers by cell and place; a method's start and end over a world that is a function of such a state; calls within one world; ends. -/
abbrev SS : Type := Nat → Nat → Int32
def u2 (σ : SS) (k i : Nat) (v : Int32) : SS := fun q => if q = k then upd (σ k) i v else σ q
def fl (σ : SS) (k n : Nat) (v : Int32) : SS := fun q => if q = k then (fun j => if j < n then v else σ k j) else σ q
theorem u2_s (σ : SS) (k i : Nat) (v : Int32) : u2 σ k i v k = upd (σ k) i v := by simp [u2]
theorem u2_n (σ : SS) {k q : Nat} (i : Nat) (v : Int32) (h : q ≠ k) : u2 σ k i v q = σ q := by simp [u2, h]
theorem u2_ss (σ : SS) (k i : Nat) (v : Int32) : u2 σ k i v k i = v := by simp [u2, upd]
theorem u2_sn (σ : SS) {k i j : Nat} (v : Int32) (h : j ≠ i) : u2 σ k i v k j = σ k j := by simp [u2, upd, h]
theorem fl_s (σ : SS) (k n : Nat) (v : Int32) {j : Nat} (h : j < n) : fl σ k n v k j = v := by simp [fl, h]
theorem fl_n (σ : SS) {k q : Nat} (n : Nat) (v : Int32) (h : q ≠ k) : fl σ k n v q = σ q := by simp [fl, h]
/-- a method's start over the world ws -/
def pW (D : va_G) (cl : List vw_C) (tys : List (ClassId × FieldType)) (av : List Value) (sz : Nat) (ws : va_W) : Array Value → State → Prop :=
  va_Pc av (fun U => U.heap.size = sz ∧ va_P D cl ws U.heap ∧ va_K D cl tys U ∧ va_D (fun _ => True) ws)
/-- the world behind it -/
def bW (D : va_G) (cl : List vw_C) (tys : List (ClassId × FieldType)) (w : SS → va_W) (A : Nat → Prop) : SS → State → Prop :=
  fun u t => va_P D cl (w u) t.heap ∧ va_K D cl tys t ∧ va_D A (w u)
theorem pW_blind {D : va_G} {cl : List vw_C} {tys : List (ClassId × FieldType)} {av : List Value} {sz : Nat} {ws : va_W} : FrameBlind (pW D cl tys av sz ws) := fun a U g mk q => by
  obtain ⟨q0, q1, qP, qK, qD⟩ := q
  exact ⟨q0, q1, qP, va_K.moved (u := U) (U := U.calling g mk a) (Vm.Alike.refl U.vm) qK, qD⟩
theorem pW_V {s : State} {H : Heap} {D : va_G} {cl : List vw_C} {tys : List (ClassId × FieldType)} {A : Nat → Prop} {ws : va_W} {b k ci : Nat} {C : String} {T : u_T} {N : Nat} {fs : List Value} {As : List Value} (hK : va_K D cl tys s) (hP : va_P D cl ws H) (hD : va_D A ws) (hc : cl[ci]? = some (C, T, N)) (he : ws[k]? = some (b, .inr (ci, fs))) : PreV s H C b (pW D cl tys (.ref b :: As) H.size ws) As :=
  ⟨pW_blind, va_recv hK hP hc he, fun U hU hW => ⟨rfl, by rw [hU], by rw [hU]; exact hP, va_K.moved hW.alike hK, hD.weaken (fun _ _ _ _ => trivial)⟩⟩
theorem pW_S {s : State} {H : Heap} {D : va_G} {cl : List vw_C} {tys : List (ClassId × FieldType)} {A : Nat → Prop} {ws : va_W} {As : List Value} (hK : va_K D cl tys s) (hP : va_P D cl ws H) (hD : va_D A ws) : PreS s H (pW D cl tys As H.size ws) As :=
  ⟨pW_blind, fun U hU hW => ⟨rfl, by rw [hU], by rw [hU]; exact hP, va_K.moved hW.alike hK, hD.weaken (fun _ _ _ _ => trivial)⟩⟩
theorem wA {A : Nat → Prop} {ws : va_W} {H0 H : Heap} {locs : List Loc} (hD : va_D A ws) (hS : va_S A H0 H locs) (hA : ∀ q, H0.size ≤ q → A q) : ∀ q, va_A ws H.size q → A q := fun q h => by
  rcases h with ⟨k, e, h⟩ | h
  · exact hD.2 k _ h
  · exact hA q (Nat.le_trans hS.1 h)
section OWN
variable {p : Program} {l : Launch} {e : Env} {R : Room} {s : State} {m : MethodId} {args : Array Value} {below : List Frame} {meth : Method} {c : Code} {H : Heap} {locs : List Loc} {cells slots : Nat} {Q : State → Prop}
variable {cc : ByteArray} {pc : Nat} {ls : Array Slot} {rest st0 : List Value} {D : va_G} {cl : List vw_C} {A : Nat → Prop} {a : Array Value} {tys : List (ClassId × FieldType)} {ws : va_W} {w : SS → va_W} {H0 : Heap}
theorem cl_i {post : Int32 → SS → Prop} (hr : va_Run p l e R s m args below meth c H locs cells slots 0 0 (F0 m pc ls st0) rest (va_Qi post (bW D cl tys w (va_A ws H.size)) (va_A ws H.size) a) (va_A ws H.size)) (hD : va_D A ws) (hS : va_S A H0 H locs) (hA : ∀ q, H0.size ≤ q → A q)
    (kk : ∀ (r : Int32) (u : SS) (H : Heap) (locs : List Loc), post r u → va_P D cl (w u) H → va_D A (w u) → va_S A H0 H locs → W p l e R s m args below meth c H locs cells slots Q (F0 m (pc + 3) ls (.int r :: rest))) : W p l e R s m args below meth c H locs cells slots Q (F0 m pc ls st0) :=
  va_calli hr hS (fun q _ h => wA hD hS hA q h) (wA hD hS hA) (fun r u t H1 locs1 ht _ hp hB _ _ hS1 => kk r u H1 locs1 hp (by rw [← ht]; exact hB.1) (hB.2.2.weaken (fun _ _ _ h => wA hD hS hA _ h)) hS1)
theorem cl_r {post : Int32 → Prop} {σ : SS} (hr : va_Run p l e R s m args below meth c H locs cells slots 0 0 (F0 m pc ls st0) rest (va_Qi (fun r u => u = σ ∧ post r) (bW D cl tys w (va_A (w σ) H.size)) (va_A (w σ) H.size) a) (va_A (w σ) H.size)) (hD : va_D A (w σ)) (hS : va_S A H0 H locs) (hA : ∀ q, H0.size ≤ q → A q)
    (kk : ∀ (r : Int32) (H : Heap) (locs : List Loc), post r → va_P D cl (w σ) H → va_D A (w σ) → va_S A H0 H locs → W p l e R s m args below meth c H locs cells slots Q (F0 m (pc + 3) ls (.int r :: rest))) : W p l e R s m args below meth c H locs cells slots Q (F0 m pc ls st0) :=
  cl_i hr hD hS hA (fun r u H locs hp hP hD hS => by obtain ⟨rfl, hp⟩ := hp; exact kk r H locs hp hP hD hS)
theorem cl_v {post : SS → Prop} (hr : va_Run p l e R s m args below meth c H locs cells slots 0 0 (F0 m pc ls st0) rest (va_Qv post (bW D cl tys w (va_A ws H.size)) (va_A ws H.size) a) (va_A ws H.size)) (hD : va_D A ws) (hS : va_S A H0 H locs) (hA : ∀ q, H0.size ≤ q → A q)
    (kk : ∀ (u : SS) (H : Heap) (locs : List Loc), post u → va_P D cl (w u) H → va_D A (w u) → va_S A H0 H locs → W p l e R s m args below meth c H locs cells slots Q (F0 m (pc + 3) ls rest)) : W p l e R s m args below meth c H locs cells slots Q (F0 m pc ls st0) :=
  va_callv hr hS (fun q _ h => wA hD hS hA q h) (wA hD hS hA) (fun u t H1 locs1 ht _ hp hB _ _ hS1 => kk u H1 locs1 hp (by rw [← ht]; exact hB.1) (hB.2.2.weaken (fun _ _ _ h => wA hD hS hA _ h)) hS1)
theorem rt_i {post : Int32 → SS → Prop} {u : SS} {v : Int32} (hexec : p.tables.exec = Jvm.exec) (hb : c.code = cc) (hr : meth.sig.returnType = some .int) (hlocks : meth.locks = false) (hK : va_K D cl tys s) (hP : va_P D cl (w u) H) (hD : va_D A (w u)) (hS : va_S A s.heap H locs) (hdg : decode cc pc = .ok (.ireturn, 1)) (hw : post v u) :
    W p l e R s m args below meth c H locs cells slots (MQ below (va_Qi post (bW D cl tys w A) A) args s cells slots A) (F0 m pc ls [.int v]) :=
  W.iret (v := v) hexec hb hr (fun t ht hW => ⟨⟨v, u, rfl, hw, by rw [ht]; exact hP, va_K.moved hW.alike hK, hD⟩, hS.F ht⟩) hS.2.2 hdg hlocks
theorem nar_b {v : Int32} (h : v = 0 ∨ v = 1) : narrow .boolean (.int v) = .int v := by
  rcases h with rfl | rfl <;> rfl
theorem rt_z {post : Int32 → SS → Prop} {u : SS} {v : Int32} (hexec : p.tables.exec = Jvm.exec) (hb : c.code = cc) (hr : meth.sig.returnType = some .boolean) (hlocks : meth.locks = false) (hK : va_K D cl tys s) (hP : va_P D cl (w u) H) (hD : va_D A (w u)) (hS : va_S A s.heap H locs) (hdg : decode cc pc = .ok (.ireturn, 1)) (hn : v = 0 ∨ v = 1) (hw : post v u) :
    W p l e R s m args below meth c H locs cells slots (MQ below (va_Qi post (bW D cl tys w A) A) args s cells slots A) (F0 m pc ls [.int v]) :=
  W.zret (v := v) hexec hb hr (nar_b hn) (fun t ht hW => ⟨⟨v, u, rfl, hw, by rw [ht]; exact hP, va_K.moved hW.alike hK, hD⟩, hS.F ht⟩) hS.2.2 hdg hlocks
theorem rt_v {post : SS → Prop} {u : SS} (hexec : p.tables.exec = Jvm.exec) (hb : c.code = cc) (hr : meth.sig.returnType = none) (hlocks : meth.locks = false) (hK : va_K D cl tys s) (hP : va_P D cl (w u) H) (hD : va_D A (w u)) (hS : va_S A s.heap H locs) (hdg : decode cc pc = .ok (.return_, 1)) (hw : post u) :
    W p l e R s m args below meth c H locs cells slots (MQ below (va_Qv post (bW D cl tys w A) A) args s cells slots A) (F0 m pc ls []) :=
  W.vret hexec hb hr (fun t ht hW => ⟨⟨u, rfl, hw, by rw [ht]; exact hP, va_K.moved hW.alike hK, hD⟩, hS.F ht⟩) hS.2.2 hdg hlocks
/-- stores that stay within the world: the state behind them gets a name -/
theorem st_i {σ : SS} (hexec : p.tables.exec = Jvm.exec) (hb : c.code = cc) (hK : va_K D cl tys s) (hP : va_P D cl (w σ) H) (hD : va_D A (w σ)) (hS : va_S A H0 H locs) (q0 t0 : Nat) {cA : ClassId} {n : Nat} {b : Nat} (ha : (w σ)[q0]? = some (b, .inl (cA, n, .inl (σ q0)))) (ht : tys[t0]? = some (cA, .int)) {i x : Int32} (hset : (w σ).set q0 (b, .inl (cA, n, .inl (upd (σ q0) i.toNatClampNeg x))) = w (u2 σ q0 i.toNatClampNeg x)) (hin : vp_in i n) (hdg : decode cc pc = .ok (.iastore, 1))
    (kk : ∀ (u : SS), u = u2 σ q0 i.toNatClampNeg x → ∀ (H : Heap) (locs : List Loc), va_P D cl (w u) H → va_D A (w u) → va_S A H0 H locs → W p l e R s m args below meth c H locs cells slots Q (F0 m (pc + 1) ls rest)) : W p l e R s m args below meth c H locs cells slots Q (F0 m pc ls (.int x :: .int i :: .ref b :: rest)) :=
  va_iast hexec hb hK hP hD hS q0 t0 ha ht hin hdg (fun H1 l1 hP hD hS => kk _ rfl H1 l1 (by rw [← hset]; exact hP) (by rw [← hset]; exact hD) hS)
theorem st_z {σ : SS} (hexec : p.tables.exec = Jvm.exec) (hb : c.code = cc) (hK : va_K D cl tys s) (hP : va_P D cl (w σ) H) (hD : va_D A (w σ)) (hS : va_S A H0 H locs) (q0 t0 : Nat) {cA : ClassId} {n : Nat} {b : Nat} (ha : (w σ)[q0]? = some (b, .inl (cA, n, .inl (σ q0)))) (ht : tys[t0]? = some (cA, .boolean)) {i x : Int32} (hx : vp_nar .boolean x = x) (hset : (w σ).set q0 (b, .inl (cA, n, .inl (upd (σ q0) i.toNatClampNeg x))) = w (u2 σ q0 i.toNatClampNeg x)) (hin : vp_in i n) (hdg : decode cc pc = .ok (.bastore, 1))
    (kk : ∀ (u : SS), u = u2 σ q0 i.toNatClampNeg x → ∀ (H : Heap) (locs : List Loc), va_P D cl (w u) H → va_D A (w u) → va_S A H0 H locs → W p l e R s m args below meth c H locs cells slots Q (F0 m (pc + 1) ls rest)) : W p l e R s m args below meth c H locs cells slots Q (F0 m pc ls (.int x :: .int i :: .ref b :: rest)) :=
  va_zast hexec hb hK hP hD hS q0 t0 ha ht hin hdg (fun H1 l1 hP hD hS => kk _ rfl H1 l1 (by rw [← hset, ← hx]; exact hP) (by rw [← hset, ← hx]; exact hD) hS)
theorem st_f {σ : SS} {own ref C : String} {T : u_T} {N ci index b : Nat} {Ts : List Cond} (hexec : p.tables.exec = Jvm.exec) (hb : c.code = cc) (hts : ∀ w ∈ Ts, w.before args s = true) (hin : ∀ w ∈ u_ws C T N, w ∈ Ts) (ty0 : Nat → FieldType) (hty : ∀ k, k < N → parseFieldDescriptor (T k).2.2.1 = some (ty0 k)) (hnm : ∀ a, a < N → ∀ b, b < N → a ≠ b → (T a).2.1 ≠ (T b).2.1) (hown : s.vm.findClass own = some m.cls) (hK : va_K D cl tys s) (hP : va_P D cl (w σ) H) (hD : va_D A (w σ)) (hS : va_S A H0 H locs) (q0 : Nat) {fs : List Value} (he : (w σ)[q0]? = some (b, .inr (ci, fs))) (hc : cl[ci]? = some (C, T, N)) (k : Nat) (hk : k < N) (hlink : (Cond.fieldLink own index ref (T k).2.1 (T k).2.2.1).before args s = true) (hsame : ∀ x, s.fieldFound? (T k).1 (T k).2.1 (T k).2.2.1 = some x → s.fieldFound? ref (T k).2.1 (T k).2.2.1 = some x) (hfin : (T k).2.2.2 = false) (hd : parseFieldDescriptor (T k).2.2.1 = some .int) (hl : k < fs.length) {x : Int32} (hset : (w σ).set q0 (b, .inr (ci, fs.set k (.int x))) = w (u2 σ q0 k x)) (hdg : decode cc pc = .ok (.putfield index, 3))
    (kk : ∀ (u : SS), u = u2 σ q0 k x → ∀ (H : Heap) (locs : List Loc), va_P D cl (w u) H → va_D A (w u) → va_S A H0 H locs → W p l e R s m args below meth c H locs cells slots Q (F0 m (pc + 3) ls rest)) : W p l e R s m args below meth c H locs cells slots Q (F0 m pc ls (.int x :: .ref b :: rest)) :=
  va_put hexec hb hts hin ty0 hty hnm hown hK hP hD hS q0 he hc k hk hlink hsame hfin hd rfl rfl hl hdg (fun H1 l1 hP hD hS => kk _ rfl H1 l1 (by rw [← hset]; exact hP) (by rw [← hset]; exact hD) hS)
end OWN
/-- a method's head; its words are its code and the one table -/
theorem hd {l : Launch} {y : MethodName} {rm : Room} {D : va_G} {cl : List vw_C} {tys : List (ClassId × FieldType)} {av : List Value} {sz : Nat} {w0 : va_W} {Qf : (Nat → Prop) → Array Value → State → Outcome → State → Prop} {mc ms : Nat} {cc : ByteArray} {maxL : Nat} {ret : Option FieldType}
    (hy : plainName y.cls = true) (hn : (lg_sl av).length ≤ maxL)
    (body : ∀ (p : Program) (e : Env) (s : State) (m : MethodId) (below : List Frame) (meth : Method) (c : Code) (A : Nat → Prop) (ls : Array Slot), p.tables.exec = Jvm.exec → c.code = cc → meth.sig.returnType = ret → (∀ w ∈ TT, w.before av.toArray s = true) → s.vm.findClass y.cls = some m.cls → meth.locks = false → c.maxLocals = maxL → va_K D cl tys s → va_P D cl w0 s.heap → va_D A w0 → va_S A s.heap s.heap [] → (∀ q, s.heap.size ≤ q → A q) → lv_has ls maxL (lv_args 0 av) →
      W p l e rm s m av.toArray below meth c s.heap [] 0 0 (MQ below (Qf A) av.toArray s mc ms A) (F0 m 0 ls [])) : Met l y (.code y cc maxL ret :: TT) rm (pW D cl tys av sz w0) (Qf (va_A w0 sz)) mc ms (va_A w0 sz) := by
  refine Met.ofW (cc := cc) (maxL := maxL) (ret := ret) hy rfl ?_
  intro p e s m args below meth c s₁ B hml hv
  obtain ⟨rfl, hsz, hP, hK, hD0⟩ := hv
  subst hsz
  have hl := lv_entry av (n := maxL) hn
  rw [lg_entry_eq]
  exact body p e s m below meth c _ _ B.exec B.bytes B.returns (fun w h => atoms_spec (ws := .code y cc maxL ret :: TT) B.pre w (List.mem_cons_of_mem _ h)) (findClass_of_methodNamed B.named) B.notSynchronized hml hK hP (hD0.self (sz := s.heap.size)) va_S.rf (fun q h => Or.inr h) hl
theorem tm {w : Cond} (i : Nat) (h : TT[i]? = some w) : w ∈ TT := List.mem_of_getElem? h
theorem gw {w : Cond} (h : goodWord w = true) : (w.onTables && w.keeps) = true ∨ ∃ ty, w = .arrayClass ty := by
  cases w <;> first | exact Or.inr ⟨_, rfl⟩ | exact Or.inl h
theorem gt {w : Cond} (h : w ∈ TT) : w ∈ TT ∧ ((w.onTables && w.keeps) = true ∨ ∃ ty, w = .arrayClass ty) := ⟨h, gw (List.all_eq_true.mp TT_all w h)⟩
theorem gi_V {own C : String} {idx n : Nat} {y : MethodName} {b : ByteArray} {r : Option FieldType} (h1 : Cond.methodLink own idx y ∈ TT) (h2 : Cond.instanceMethod y ∈ TT) (h3 : Cond.selects C y y ∈ TT) (h4 : Cond.initialized C ∈ TT) (h5 : Cond.code y b n r ∈ TT) : GoodIn TT (wsV own idx C y (.code y b n r :: TT)) := by
  intro w hw
  unfold wsV at hw
  simp only [List.cons_append, List.nil_append, List.mem_cons] at hw
  rcases hw with rfl | rfl | rfl | rfl | rfl | hw
  · exact gt h1
  · exact gt h2
  · exact gt h3
  · exact gt h4
  · exact gt h5
  · exact gt hw
theorem gi_S {own : String} {idx n : Nat} {y : MethodName} {b : ByteArray} {r : Option FieldType} (h1 : Cond.methodLink own idx y ∈ TT) (h2 : Cond.static y ∈ TT) (h4 : Cond.initialized own ∈ TT) (h5 : Cond.code y b n r ∈ TT) : GoodIn TT (wsS own idx y (.code y b n r :: TT)) := by
  intro w hw
  unfold wsS at hw
  simp only [List.cons_append, List.nil_append, List.mem_cons] at hw
  rcases hw with rfl | rfl | rfl | rfl | hw
  · exact gt h1
  · exact gt h2
  · exact gt h4
  · exact gt h5
  · exact gt hw
end
section
def wC (cI cZ : ClassId) (a : Nat → Nat) (σ : SS) : va_W :=
  [(a 0, .inr (0, [.ref (a 1), .ref (a 2), .ref (a 3), .ref (a 4), .ref (a 5), .int (σ 0 5)])),
    (a 1, .inr (1, [.int (σ 1 0), .int (σ 1 1), .ref (a 6), .ref (a 7), .ref (a 8), .ref (a 9), .ref (a 10), .ref (a 11)])),
    (a 2, .inr (2, [.int (σ 2 0), .int (σ 2 1), .ref (a 12), .ref (a 13), .ref (a 14), .ref (a 15), .ref (a 16)])),
    (a 3, .inr (3, [.ref (a 1), .ref (a 2), .ref (a 17), .ref (a 18), .ref (a 19), .ref (a 20), .ref (a 21), .ref (a 22)])),
    (a 4, .inr (4, [.ref (a 1), .ref (a 2), .ref (a 3), .ref (a 23), .ref (a 24), .ref (a 25), .ref (a 26), .ref (a 27), .int (σ 4 8), .int (σ 4 9)])),
    (a 5, .inr (5, [.ref (a 1), .ref (a 28), .ref (a 29), .ref (a 30), .ref (a 31), .int (σ 5 5), .int (σ 5 6)])),
    (a 6, .inl (cI, 40, .inl (σ 6))),
    (a 7, .inl (cI, 40, .inl (σ 7))),
    (a 8, .inl (cI, 40, .inl (σ 8))),
    (a 9, .inl (cZ, 40, .inl (σ 9))),
    (a 10, .inl (cI, 256, .inl (σ 10))),
    (a 11, .inl (cI, 16, .inl (σ 11))),
    (a 12, .inl (cI, 400, .inl (σ 12))),
    (a 13, .inl (cI, 400, .inl (σ 13))),
    (a 14, .inl (cI, 400, .inl (σ 14))),
    (a 15, .inl (cI, 400, .inl (σ 15))),
    (a 16, .inl (cI, 400, .inl (σ 16))),
    (a 17, .inl (cI, 16, .inl (σ 17))),
    (a 18, .inl (cI, 16, .inl (σ 18))),
    (a 19, .inl (cI, 400, .inl (σ 19))),
    (a 20, .inl (cI, 640, .inl (σ 20))),
    (a 21, .inl (cI, 160, .inl (σ 21))),
    (a 22, .inl (cI, 160, .inl (σ 22))),
    (a 23, .inl (cI, 176, .inl (σ 23))),
    (a 24, .inl (cI, 160, .inl (σ 24))),
    (a 25, .inl (cI, 160, .inl (σ 25))),
    (a 26, .inl (cI, 160, .inl (σ 26))),
    (a 27, .inl (cI, 40, .inl (σ 27))),
    (a 28, .inl (cI, 160, .inl (σ 28))),
    (a 29, .inl (cI, 256, .inl (σ 29))),
    (a 30, .inl (cI, 160, .inl (σ 30))),
    (a 31, .inl (cI, 160, .inl (σ 31)))]
def wM (cI cZ : ClassId) (a : Nat → Nat) (σ : SS) : va_W :=
  [(a 0, .inr (6, [.int (σ 0 0), .int (σ 0 1), .int (σ 0 2), .int (σ 0 3), .int (σ 0 4), .int (σ 0 5), .int (σ 0 6), .int (σ 0 7), .int (σ 0 8), .ref (a 1), .ref (a 2), .ref (a 3), .ref (a 4), .ref (a 5), .ref (a 6), .ref (a 7), .ref (a 8), .ref (a 9), .ref (a 10), .ref (a 11), .ref (a 12), .ref (a 13), .ref (a 14), .ref (a 15), .ref (a 16), .ref (a 17), .ref (a 18), .ref (a 19), .ref (a 20), .ref (a 21)])),
    (a 1, .inl (cI, 40, .inl (σ 1))),
    (a 2, .inl (cI, 40, .inl (σ 2))),
    (a 3, .inl (cI, 40, .inl (σ 3))),
    (a 4, .inl (cZ, 40, .inl (σ 4))),
    (a 5, .inl (cI, 40, .inl (σ 5))),
    (a 6, .inl (cI, 256, .inl (σ 6))),
    (a 7, .inl (cI, 400, .inl (σ 7))),
    (a 8, .inl (cI, 400, .inl (σ 8))),
    (a 9, .inl (cI, 400, .inl (σ 9))),
    (a 10, .inl (cI, 400, .inl (σ 10))),
    (a 11, .inl (cI, 400, .inl (σ 11))),
    (a 12, .inl (cI, 400, .inl (σ 12))),
    (a 13, .inl (cI, 160, .inl (σ 13))),
    (a 14, .inl (cI, 640, .inl (σ 14))),
    (a 15, .inl (cI, 640, .inl (σ 15))),
    (a 16, .inl (cI, 160, .inl (σ 16))),
    (a 17, .inl (cI, 160, .inl (σ 17))),
    (a 18, .inl (cI, 160, .inl (σ 18))),
    (a 19, .inl (cZ, 25600, .inl (σ 19))),
    (a 20, .inl (cI, 160, .inl (σ 20))),
    (a 21, .inl (cI, 160, .inl (σ 21)))]
end
section
theorem d_fill_0 : decode b_fill 0 = .ok (.iconst 0, 1) := by decide +kernel
theorem d_fill_1 : decode b_fill 1 = .ok (.istore_n 2, 1) := by decide +kernel
theorem d_fill_2 : decode b_fill 2 = .ok (.aload_n 0, 1) := by decide +kernel
theorem d_fill_3 : decode b_fill 3 = .ok (.arraylength, 1) := by decide +kernel
theorem d_fill_4 : decode b_fill 4 = .ok (.istore_n 3, 1) := by decide +kernel
theorem d_fill_5 : decode b_fill 5 = .ok (.iload_n 2, 1) := by decide +kernel
theorem d_fill_6 : decode b_fill 6 = .ok (.iload_n 3, 1) := by decide +kernel
theorem d_fill_7 : decode b_fill 7 = .ok (.if_icmp .ge 13, 3) := by decide +kernel
theorem d_fill_10 : decode b_fill 10 = .ok (.aload_n 0, 1) := by decide +kernel
theorem d_fill_11 : decode b_fill 11 = .ok (.iload_n 2, 1) := by decide +kernel
theorem d_fill_12 : decode b_fill 12 = .ok (.iload_n 1, 1) := by decide +kernel
theorem d_fill_13 : decode b_fill 13 = .ok (.iastore, 1) := by decide +kernel
theorem d_fill_14 : decode b_fill 14 = .ok (.iinc 2 1, 3) := by decide +kernel
theorem d_fill_17 : decode b_fill 17 = .ok (.goto (-12), 3) := by decide +kernel
theorem d_fill_20 : decode b_fill 20 = .ok (.return_, 1) := by decide +kernel
/-! Arrays.fill(int[], int): over the world of its one array; and its call out of a larger world -/
def fz (f : Nat → Int32) (n : Nat) (v : Int32) : Nat → Int32 := fun j => if j < n then v else f j
theorem fz_0 (f : Nat → Int32) (v : Int32) : fz f 0 v = f := by funext j; simp [fz]
theorem fz_s (f : Nat → Int32) (k : Nat) (v : Int32) : upd (fz f k v) k v = fz f (k + 1) v := by
  funext j
  simp only [upd, fz]
  by_cases h : j = k
  · subst h; simp
  · by_cases h2 : j < k
    · simp [h, h2, Nat.lt_succ_of_lt h2]
    · have h3 : ¬ j < k + 1 := by omega
      simp [h, h2, h3]
set_option maxHeartbeats 4000000 in
set_option maxRecDepth 100000 in
theorem c_fill (l : Launch) (D : va_G) (cl : List vw_C) (tys : List (ClassId × FieldType)) (cI : ClassId) (ht : tys[0]? = some (cI, .int)) (b n sz : Nat) (hn : n < 2 ^ 31) (f : Nat → Int32) (v : Int32) : Met l y_fill (.code y_fill b_fill 4 none :: TT) { frames := 0, cells := 0, slots := 0, locals := 0 } (pW D cl tys [.ref b, .int v] sz [(b, .inl (cI, n, .inl f))])
    (va_Qv (fun g : Nat → Int32 => g = fz f n v) (fun g t => va_P D cl [(b, .inl (cI, n, .inl g))] t.heap ∧ va_K D cl tys t ∧ va_D (va_A [(b, .inl (cI, n, .inl f))] sz) [(b, .inl (cI, n, .inl g))]) (va_A [(b, .inl (cI, n, .inl f))] sz)) 0 0 (va_A [(b, .inl (cI, n, .inl f))] sz) := by
  refine hd (Qf := fun A => va_Qv (fun g : Nat → Int32 => g = fz f n v) (fun g t => va_P D cl [(b, .inl (cI, n, .inl g))] t.heap ∧ va_K D cl tys t ∧ va_D A [(b, .inl (cI, n, .inl g))]) A) (by decide) (Nat.le_of_ble_eq_true rfl) ?_
  intro p e s m below meth c A ls hx hb hr hts hown hlocks hml hK hP hD hS hA hl
  have hl : lv_has ls 4 [(0, .ref b), (1, .int v)] := hl
  refine lv_iconst (v := 0) hx hb d_fill_0 (by decide) ?_
  refine lv_istore_n (lv' := [(2, .int 0), (0, .ref b), (1, .int v)]) hx hb d_fill_1 rfl hl (by decide) rfl (fun ls hl => ?_)
  refine lv_aload_n hx hb d_fill_2 rfl (lv_at hl 1 rfl) ?_
  refine va_alen hx hb hK hP 0 0 rfl ht (v := nI n) rfl d_fill_3 ?_
  refine lv_istore_n (lv' := [(3, .int (nI n)), (2, .int 0), (0, .ref b), (1, .int v)]) hx hb d_fill_4 rfl hl (by decide) rfl (fun ls hl => ?_)
  have loop : ∀ (k i : Nat) (H : Heap) (locs : List Loc) (ls : Array Slot), i ≤ n → n ≤ i + k → va_P D cl [(b, .inl (cI, n, .inl (fz f i v)))] H → va_D A [(b, .inl (cI, n, .inl (fz f i v)))] → va_S A s.heap H locs → lv_has ls 4 [(3, .int (nI n)), (2, .int (nI i)), (0, .ref b), (1, .int v)] →
      W p l e { frames := 0, cells := 0, slots := 0, locals := 0 } s m ([.ref b, .int v] : List Value).toArray below meth c H locs 0 0 (MQ below (va_Qv (fun g : Nat → Int32 => g = fz f n v) (fun g t => va_P D cl [(b, .inl (cI, n, .inl g))] t.heap ∧ va_K D cl tys t ∧ va_D A [(b, .inl (cI, n, .inl g))]) A) ([.ref b, .int v] : List Value).toArray s 0 0 A) (F0 m 5 ls []) := by
    intro k
    induction k with
    | zero =>
      intro i H locs ls h1 h2 hP hD hS hl
      have hi : i = n := by omega
      subst hi
      refine lv_iload_n hx hb d_fill_5 rfl (lv_at hl 1 rfl) ?_
      refine lv_iload_n hx hb d_fill_6 rfl (lv_at hl 0 rfl) ?_
      refine lv_icmp_ge (tgt := 20) hx hb d_fill_7 (by decide) (fun _ => ?_) (fun c9 => absurd (nI_le (Nat.le_refl _) hn) c9)
      exact W.vret hx hb hr (fun t ht9 hW => ⟨⟨_, rfl, rfl, by rw [ht9]; exact hP, va_K.moved hW.alike hK, hD⟩, hS.F ht9⟩) hS.2.2 d_fill_20 hlocks
    | succ k ih =>
      intro i H locs ls h1 h2 hP hD hS hl
      refine lv_iload_n hx hb d_fill_5 rfl (lv_at hl 1 rfl) ?_
      refine lv_iload_n hx hb d_fill_6 rfl (lv_at hl 0 rfl) ?_
      refine lv_icmp_ge (tgt := 20) hx hb d_fill_7 (by decide) (fun c9 => ?_) (fun c9 => ?_)
      · have hi : i = n := by
          rcases Nat.lt_or_ge i n with q | q
          · exact absurd c9 (nI_ge q hn)
          · omega
        subst hi
        exact W.vret hx hb hr (fun t ht9 hW => ⟨⟨_, rfl, rfl, by rw [ht9]; exact hP, va_K.moved hW.alike hK, hD⟩, hS.F ht9⟩) hS.2.2 d_fill_20 hlocks
      · have hi : i < n := by
          rcases Nat.lt_or_ge i n with q | q
          · exact q
          · exact absurd (nI_le q (by omega)) c9
        refine lv_aload_n hx hb d_fill_10 rfl (lv_at hl 2 rfl) ?_
        refine lv_iload_n hx hb d_fill_11 rfl (lv_at hl 1 rfl) ?_
        refine lv_iload_n hx hb d_fill_12 rfl (lv_at hl 3 rfl) ?_
        refine va_iast hx hb hK hP hD hS 0 0 rfl ht (vp_in_nI hi hn) d_fill_13 (fun H locs hP hD hS => ?_)
        rw [nI_clamp (by omega), fz_s] at hP hD
        refine lv_iinc (v := nI (i + 1)) (lv' := [(2, .int (nI (i + 1))), (3, .int (nI n)), (0, .ref b), (1, .int v)]) hx hb d_fill_14 hl (k := 1) rfl (by rw [← nI_1 i]; rfl) (by decide) rfl (fun ls hl => ?_)
        refine lv_goto (tgt := 5) hx hb d_fill_17 (by decide) ?_
        exact ih (i + 1) H locs ls (by omega) (by omega) hP hD hS (lv_sub hl [1, 0, 2, 3] rfl)
  exact loop n 0 s.heap [] ls (Nat.zero_le _) (by omega) (by rw [fz_0]; exact hP) (by rw [fz_0]; exact hD) hS (lv_sub hl [0, 1, 2, 3] rfl)
/-- one cell of a world changed by a callee that had it alone -/
theorem one_P {D : va_G} {cl : List vw_C} {A : Nat → Prop} {ws : va_W} {H H1 : Heap} {k b : Nat} {e0 e1 : va_E} (hP : va_P D cl ws H) (hD : va_D A ws) (hk : ws[k]? = some (b, e0)) (hq : ∀ q : Nat, q < H.size → ¬ va_A [(b, e0)] H.size q → H1[q]? = H[q]?) (h1 : va_P D cl [(b, e1)] H1) : va_P D cl (ws.set k (b, e1)) H1 := by
  intro j q hj
  rw [List.getElem?_set] at hj
  by_cases h : k = j
  · subst h
    have hlt : k < ws.length := (List.getElem?_eq_some_iff.mp hk).1
    simp only [hlt, if_true] at hj
    cases Option.some.inj hj
    exact h1 0 _ rfl
  · rw [if_neg h] at hj
    refine (hP j q hj).kept (hq q.1 (hP j q hj).lt ?_)
    rintro (⟨k2, e, h2⟩ | h2)
    · match k2, h2 with
      | 0, h2 =>
        have e2 : b = q.1 := congrArg Prod.fst (Option.some.inj h2)
        exact h (hD.1 k j _ _ hk hj e2)
      | k2 + 1, h2 => simp at h2
    · exact absurd (hP j q hj).lt (by omega)
section FILL
variable {p : Program} {l : Launch} {e : Env} {R : Room} {s : State} {m : MethodId} {args : Array Value} {below : List Frame} {meth : Method} {c : Code} {H : Heap} {locs : List Loc} {cells slots : Nat} {Q : State → Prop}
variable {cc : ByteArray} {pc : Nat} {ls : Array Slot} {rest : List Value} {D : va_G} {cl : List vw_C} {A : Nat → Prop} {tys : List (ClassId × FieldType)} {w : SS → va_W} {H0 : Heap} {own : String} {nL index : Nat}
theorem gi_S9 (h1 : Cond.methodLink own index y_fill ∈ TT) (h2 : Cond.static y_fill ∈ TT) (h4 : Cond.initialized R_Arrays ∈ TT) (h5 : Cond.code y_fill b_fill 4 none ∈ TT) : GoodIn TT (va_wsS own index y_fill (.code y_fill b_fill 4 none :: TT)) := by
  intro w hw
  unfold va_wsS at hw
  simp only [List.cons_append, List.nil_append, List.mem_cons] at hw
  rcases hw with rfl | rfl | rfl | rfl | hw
  · exact gt h1
  · exact gt h2
  · exact gt h4
  · exact gt h5
  · exact gt hw
/-- Arrays.fill of the array at place k of a world, whatever else is in it -/
theorem cl_fillG {ws : va_W} {n b : Nat} {f : Nat → Int32} {cI : ClassId} {v : Int32} (S : CallFix p m c cc nL s args TT own) (hK : va_K D cl tys s) (hP : va_P D cl ws H) (hD : va_D A ws) (hS : va_S A H0 H locs) (hA : ∀ q, H0.size ≤ q → A q) (k : Nat) (ht : tys[0]? = some (cI, .int)) (hk : ws[k]? = some (b, .inl (cI, n, .inl f))) (hn : n < 2 ^ 31)
    (gi : GoodIn TT (va_wsS own index y_fill (.code y_fill b_fill 4 none :: TT))) (hR : 0 + 1 ≤ R.frames ∧ 8 + (4 + 11) + 0 ≤ R.locals) (hsz : ls.size = nL) (hW : 2 * (F0 m pc ls (.int v :: .ref b :: rest)).monitorRoom + (rest.map fun v => v.category).sum ≤ 8) (hcf : cells + 0 ≤ R.cells ∧ slots + 0 ≤ R.slots) (hdg : decode cc pc = .ok (.invokestatic index, 3))
    (kk : ∀ (H : Heap) (locs : List Loc), va_P D cl (ws.set k (b, .inl (cI, n, .inl (fz f n v)))) H → va_D A (ws.set k (b, .inl (cI, n, .inl (fz f n v)))) → va_S A H0 H locs → W p l e R s m args below meth c H locs cells slots Q (F0 m (pc + 3) ls rest)) : W p l e R s m args below meth c H locs cells slots Q (F0 m pc ls (.int v :: .ref b :: rest)) := by
  have hPc : va_P D cl [(b, .inl (cI, n, .inl f))] H := fun j q hj => by
    match j, hj with
    | 0, hj => cases Option.some.inj hj; exact hP k _ hk
    | j + 1, hj => simp at hj
  have hDc : va_D A [(b, .inl (cI, n, .inl f))] := ⟨fun i j x y h1 h2 _ => by
    match i, j, h1, h2 with
    | 0, 0, _, _ => rfl
    | i + 1, _, h1, _ => simp at h1
    | 0, j + 1, _, h2 => simp at h2, fun j q hj => by
    match j, hj with
    | 0, hj => cases Option.some.inj hj; exact hD.2 k _ hk
    | j + 1, hj => simp at hj⟩
  refine va_callv (va_runS (As := [.ref b, .int v]) (rest := rest) S (c_fill l D cl tys cI ht b n H.size hn f v) (va_cwS 2 S.2.2.2.2 gi rfl rfl rfl (by decide +kernel) hR) (pW_S hK hPc hDc) rfl rfl hsz rfl hW hdg hcf) hS (fun q _ h => wA hDc hS hA q h) (wA hDc hS hA) (fun u t H1 locs1 ht1 _ hp hB _ hk1 hS1 => ?_)
  subst hp
  refine kk H1 locs1 (one_P hP hD hk hk1 (by rw [← ht1]; exact hB.1)) (hD.set hk) hS1
theorem cl_fill {σ : SS} {n b : Nat} {cI : ClassId} {v : Int32} (S : CallFix p m c cc nL s args TT own) (hK : va_K D cl tys s) (hP : va_P D cl (w σ) H) (hD : va_D A (w σ)) (hS : va_S A H0 H locs) (hA : ∀ q, H0.size ≤ q → A q) (k : Nat) (ht : tys[0]? = some (cI, .int)) (hk : (w σ)[k]? = some (b, .inl (cI, n, .inl (σ k)))) (hn : n < 2 ^ 31) (hset : (w σ).set k (b, .inl (cI, n, .inl (fz (σ k) n v))) = w (fl σ k n v))
    (gi : GoodIn TT (va_wsS own index y_fill (.code y_fill b_fill 4 none :: TT))) (hR : 0 + 1 ≤ R.frames ∧ 8 + (4 + 11) + 0 ≤ R.locals) (hsz : ls.size = nL) (hW : 2 * (F0 m pc ls (.int v :: .ref b :: rest)).monitorRoom + (rest.map fun v => v.category).sum ≤ 8) (hcf : cells + 0 ≤ R.cells ∧ slots + 0 ≤ R.slots) (hdg : decode cc pc = .ok (.invokestatic index, 3))
    (kk : ∀ (u : SS), u = fl σ k n v → ∀ (H : Heap) (locs : List Loc), va_P D cl (w u) H → va_D A (w u) → va_S A H0 H locs → W p l e R s m args below meth c H locs cells slots Q (F0 m (pc + 3) ls rest)) : W p l e R s m args below meth c H locs cells slots Q (F0 m pc ls (.int v :: .ref b :: rest)) :=
  cl_fillG S hK hP hD hS hA k ht hk hn gi hR hsz hW hcf hdg (fun H1 l1 hP hD hS => kk _ rfl H1 l1 (by rw [← hset]; exact hP) (by rw [← hset]; exact hD) hS)
end FILL
end
