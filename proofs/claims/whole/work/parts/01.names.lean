/-! names: classes, fields, methods, the one table of words (by wip/gen/run.py out of the claim's listing and tables) -/
def R_CN : String := "NetRoutes"
def F_CN : u_T := fun k => match k with
  | 0 => ("NetRoutes", "plan", "LNetRoutes$Plan;", true)
  | 1 => ("NetRoutes", "packets", "LNetRoutes$Packets;", true)
  | 2 => ("NetRoutes", "inputs", "LNetRoutes$Inputs;", true)
  | 3 => ("NetRoutes", "traffic", "LNetRoutes$Traffic;", true)
  | 4 => ("NetRoutes", "rings", "LNetRoutes$Rings;", true)
  | _ => ("NetRoutes", "seed", "I", false)
def t_CN : Nat → FieldType := fun k => match k with
  | 0 => .object "NetRoutes$Plan"
  | 1 => .object "NetRoutes$Packets"
  | 2 => .object "NetRoutes$Inputs"
  | 3 => .object "NetRoutes$Traffic"
  | 4 => .object "NetRoutes$Rings"
  | _ => .int
theorem n_CN : ∀ a, a < 6 → ∀ b, b < 6 → a ≠ b → (F_CN a).2.1 ≠ (F_CN b).2.1 := by decide +kernel
theorem t_CN_ok : ∀ k, k < 6 → parseFieldDescriptor (F_CN k).2.2.1 = some (t_CN k) := by decide +kernel
def R_CP : String := "NetRoutes$Plan"
def F_CP : u_T := fun k => match k with
  | 0 => ("NetRoutes$Plan", "nodes", "I", false)
  | 1 => ("NetRoutes$Plan", "links", "I", false)
  | 2 => ("NetRoutes$Plan", "begin", "[I", true)
  | 3 => ("NetRoutes$Plan", "end", "[I", true)
  | 4 => ("NetRoutes$Plan", "lanes", "[I", true)
  | 5 => ("NetRoutes$Plan", "failed", "[Z", true)
  | 6 => ("NetRoutes$Plan", "ways", "[I", true)
  | _ => ("NetRoutes$Plan", "distance", "[I", true)
def t_CP : Nat → FieldType := fun k => match k with
  | 0 => .int
  | 1 => .int
  | 2 => .array .int
  | 3 => .array .int
  | 4 => .array .int
  | 5 => .array .boolean
  | 6 => .array .int
  | _ => .array .int
theorem n_CP : ∀ a, a < 8 → ∀ b, b < 8 → a ≠ b → (F_CP a).2.1 ≠ (F_CP b).2.1 := by decide +kernel
theorem t_CP_ok : ∀ k, k < 8 → parseFieldDescriptor (F_CP k).2.2.1 = some (t_CP k) := by decide +kernel
def R_CK : String := "NetRoutes$Packets"
def F_CK : u_T := fun k => match k with
  | 0 => ("NetRoutes$Packets", "many", "I", false)
  | 1 => ("NetRoutes$Packets", "arrived", "I", false)
  | 2 => ("NetRoutes$Packets", "end", "[I", true)
  | 3 => ("NetRoutes$Packets", "flits", "[I", true)
  | 4 => ("NetRoutes$Packets", "waiting", "[I", true)
  | 5 => ("NetRoutes$Packets", "left", "[I", true)
  | _ => ("NetRoutes$Packets", "arrivedIn", "[I", true)
def t_CK : Nat → FieldType := fun k => match k with
  | 0 => .int
  | 1 => .int
  | 2 => .array .int
  | 3 => .array .int
  | 4 => .array .int
  | 5 => .array .int
  | _ => .array .int
theorem n_CK : ∀ a, a < 7 → ∀ b, b < 7 → a ≠ b → (F_CK a).2.1 ≠ (F_CK b).2.1 := by decide +kernel
theorem t_CK_ok : ∀ k, k < 7 → parseFieldDescriptor (F_CK k).2.2.1 = some (t_CK k) := by decide +kernel
def R_CI : String := "NetRoutes$Inputs"
def F_CI : u_T := fun k => match k with
  | 0 => ("NetRoutes$Inputs", "plan", "LNetRoutes$Plan;", true)
  | 1 => ("NetRoutes$Inputs", "packets", "LNetRoutes$Packets;", true)
  | 2 => ("NetRoutes$Inputs", "firstPacket", "[I", true)
  | 3 => ("NetRoutes$Inputs", "lastPacket", "[I", true)
  | 4 => ("NetRoutes$Inputs", "packetBehind", "[I", true)
  | 5 => ("NetRoutes$Inputs", "slots", "[I", true)
  | 6 => ("NetRoutes$Inputs", "size", "[I", true)
  | _ => ("NetRoutes$Inputs", "fresh", "[I", true)
def t_CI : Nat → FieldType := fun k => match k with
  | 0 => .object "NetRoutes$Plan"
  | 1 => .object "NetRoutes$Packets"
  | 2 => .array .int
  | 3 => .array .int
  | 4 => .array .int
  | 5 => .array .int
  | 6 => .array .int
  | _ => .array .int
theorem n_CI : ∀ a, a < 8 → ∀ b, b < 8 → a ≠ b → (F_CI a).2.1 ≠ (F_CI b).2.1 := by decide +kernel
theorem t_CI_ok : ∀ k, k < 8 → parseFieldDescriptor (F_CI k).2.2.1 = some (t_CI k) := by decide +kernel
def R_CT : String := "NetRoutes$Traffic"
def F_CT : u_T := fun k => match k with
  | 0 => ("NetRoutes$Traffic", "plan", "LNetRoutes$Plan;", true)
  | 1 => ("NetRoutes$Traffic", "packets", "LNetRoutes$Packets;", true)
  | 2 => ("NetRoutes$Traffic", "inputs", "LNetRoutes$Inputs;", true)
  | 3 => ("NetRoutes$Traffic", "holds", "[I", true)
  | 4 => ("NetRoutes$Traffic", "holder", "[I", true)
  | 5 => ("NetRoutes$Traffic", "heldFor", "[I", true)
  | 6 => ("NetRoutes$Traffic", "entered", "[I", true)
  | 7 => ("NetRoutes$Traffic", "lastLane", "[I", true)
  | 8 => ("NetRoutes$Traffic", "cycles", "I", false)
  | _ => ("NetRoutes$Traffic", "moved", "I", false)
def t_CT : Nat → FieldType := fun k => match k with
  | 0 => .object "NetRoutes$Plan"
  | 1 => .object "NetRoutes$Packets"
  | 2 => .object "NetRoutes$Inputs"
  | 3 => .array .int
  | 4 => .array .int
  | 5 => .array .int
  | 6 => .array .int
  | 7 => .array .int
  | 8 => .int
  | _ => .int
theorem n_CT : ∀ a, a < 10 → ∀ b, b < 10 → a ≠ b → (F_CT a).2.1 ≠ (F_CT b).2.1 := by decide +kernel
theorem t_CT_ok : ∀ k, k < 10 → parseFieldDescriptor (F_CT k).2.2.1 = some (t_CT k) := by decide +kernel
def R_CR : String := "NetRoutes$Rings"
def F_CR : u_T := fun k => match k with
  | 0 => ("NetRoutes$Rings", "plan", "LNetRoutes$Plan;", true)
  | 1 => ("NetRoutes$Rings", "firstStep", "[I", true)
  | 2 => ("NetRoutes$Rings", "nextStep", "[I", true)
  | 3 => ("NetRoutes$Rings", "toClose", "[I", true)
  | 4 => ("NetRoutes$Rings", "reached", "[I", true)
  | 5 => ("NetRoutes$Rings", "start", "I", false)
  | _ => ("NetRoutes$Rings", "length", "I", false)
def t_CR : Nat → FieldType := fun k => match k with
  | 0 => .object "NetRoutes$Plan"
  | 1 => .array .int
  | 2 => .array .int
  | 3 => .array .int
  | 4 => .array .int
  | 5 => .int
  | _ => .int
theorem n_CR : ∀ a, a < 7 → ∀ b, b < 7 → a ≠ b → (F_CR a).2.1 ≠ (F_CR b).2.1 := by decide +kernel
theorem t_CR_ok : ∀ k, k < 7 → parseFieldDescriptor (F_CR k).2.2.1 = some (t_CR k) := by decide +kernel
def R_M : String := "NetRoutesModel"
def F_M : u_T := fun k => match k with
  | 0 => ("NetRoutesModel", "thrown", "I", false)
  | 1 => ("NetRoutesModel", "x", "I", false)
  | 2 => ("NetRoutesModel", "nodes", "I", false)
  | 3 => ("NetRoutesModel", "links", "I", false)
  | 4 => ("NetRoutesModel", "packets", "I", false)
  | 5 => ("NetRoutesModel", "cycle", "I", false)
  | 6 => ("NetRoutesModel", "moved", "I", false)
  | 7 => ("NetRoutesModel", "left", "I", false)
  | 8 => ("NetRoutesModel", "arrived", "I", false)
  | 9 => ("NetRoutesModel", "from", "[I", true)
  | 10 => ("NetRoutesModel", "to", "[I", true)
  | 11 => ("NetRoutesModel", "width", "[I", true)
  | 12 => ("NetRoutesModel", "failed", "[Z", true)
  | 13 => ("NetRoutesModel", "last", "[I", true)
  | 14 => ("NetRoutesModel", "route", "[I", true)
  | 15 => ("NetRoutesModel", "source", "[I", true)
  | 16 => ("NetRoutesModel", "end", "[I", true)
  | 17 => ("NetRoutesModel", "size", "[I", true)
  | 18 => ("NetRoutesModel", "sent", "[I", true)
  | 19 => ("NetRoutesModel", "gone", "[I", true)
  | 20 => ("NetRoutesModel", "came", "[I", true)
  | 21 => ("NetRoutesModel", "filled", "[I", true)
  | 22 => ("NetRoutesModel", "flit", "[I", true)
  | 23 => ("NetRoutesModel", "since", "[I", true)
  | 24 => ("NetRoutesModel", "passed", "[I", true)
  | 25 => ("NetRoutesModel", "holder", "[I", true)
  | 26 => ("NetRoutesModel", "holding", "[I", true)
  | 27 => ("NetRoutesModel", "leads", "[Z", true)
  | 28 => ("NetRoutesModel", "away", "[I", true)
  | _ => ("NetRoutesModel", "ring", "[I", true)
def t_M : Nat → FieldType := fun k => match k with
  | 0 => .int
  | 1 => .int
  | 2 => .int
  | 3 => .int
  | 4 => .int
  | 5 => .int
  | 6 => .int
  | 7 => .int
  | 8 => .int
  | 9 => .array .int
  | 10 => .array .int
  | 11 => .array .int
  | 12 => .array .boolean
  | 13 => .array .int
  | 14 => .array .int
  | 15 => .array .int
  | 16 => .array .int
  | 17 => .array .int
  | 18 => .array .int
  | 19 => .array .int
  | 20 => .array .int
  | 21 => .array .int
  | 22 => .array .int
  | 23 => .array .int
  | 24 => .array .int
  | 25 => .array .int
  | 26 => .array .int
  | 27 => .array .boolean
  | 28 => .array .int
  | _ => .array .int
theorem n_M : ∀ a, a < 30 → ∀ b, b < 30 → a ≠ b → (F_M a).2.1 ≠ (F_M b).2.1 := by decide +kernel
theorem t_M_ok : ∀ k, k < 30 → parseFieldDescriptor (F_M k).2.2.1 = some (t_M k) := by decide +kernel
def R_Arrays : String := "java/util/Arrays"
abbrev b_fill : ByteArray := prog_17_method_103_code
def y_fill : MethodName := ⟨R_Arrays, "fill", "([II)V"⟩
abbrev b_CN_node : ByteArray := prog_1_method_2_code
def y_CN_node : MethodName := ⟨R_CN, "node", "()I"⟩
abbrev b_CP_hasNode : ByteArray := prog_4_method_2_code
def y_CP_hasNode : MethodName := ⟨R_CP, "hasNode", "(I)Z"⟩
abbrev b_CP_hasTwoNodes : ByteArray := prog_4_method_3_code
def y_CP_hasTwoNodes : MethodName := ⟨R_CP, "hasTwoNodes", "(II)Z"⟩
abbrev b_CP_addLink : ByteArray := prog_4_method_11_code
def y_CP_addLink : MethodName := ⟨R_CP, "addLink", "(III)I"⟩
abbrev b_CN_link : ByteArray := prog_1_method_3_code
def y_CN_link : MethodName := ⟨R_CN, "link", "(III)I"⟩
abbrev b_CP_wayAt : ByteArray := prog_4_method_9_code
def y_CP_wayAt : MethodName := ⟨R_CP, "wayAt", "(II)I"⟩
abbrev b_CP_changeWay : ByteArray := prog_4_method_10_code
def y_CP_changeWay : MethodName := ⟨R_CP, "changeWay", "(III)V"⟩
abbrev b_CP_hasLink : ByteArray := prog_4_method_4_code
def y_CP_hasLink : MethodName := ⟨R_CP, "hasLink", "(I)Z"⟩
abbrev b_CP_hasChannel : ByteArray := prog_4_method_5_code
def y_CP_hasChannel : MethodName := ⟨R_CP, "hasChannel", "(I)Z"⟩
abbrev b_CP_beginOf : ByteArray := prog_4_method_7_code
def y_CP_beginOf : MethodName := ⟨R_CP, "beginOf", "(I)I"⟩
abbrev b_CP_canBeTaken : ByteArray := prog_4_method_6_code
def y_CP_canBeTaken : MethodName := ⟨R_CP, "canBeTaken", "(II)Z"⟩
abbrev b_CN_route : ByteArray := prog_1_method_4_code
def y_CN_route : MethodName := ⟨R_CN, "route", "(III)I"⟩
abbrev b_CP_bringsNearer : ByteArray := prog_4_method_13_code
def y_CP_bringsNearer : MethodName := ⟨R_CP, "bringsNearer", "(II)Z"⟩
abbrev b_CP_makeWaysTo : ByteArray := prog_4_method_12_code
def y_CP_makeWaysTo : MethodName := ⟨R_CP, "makeWaysTo", "(I)I"⟩
abbrev b_CN_routes : ByteArray := prog_1_method_5_code
def y_CN_routes : MethodName := ⟨R_CN, "routes", "(I)I"⟩
abbrev b_CP_breakLink : ByteArray := prog_4_method_14_code
def y_CP_breakLink : MethodName := ⟨R_CP, "breakLink", "(I)I"⟩
abbrev b_CN_fail : ByteArray := prog_1_method_6_code
def y_CN_fail : MethodName := ⟨R_CN, "fail", "(I)I"⟩
abbrev b_CK_add : ByteArray := prog_3_method_2_code
def y_CK_add : MethodName := ⟨R_CK, "add", "(II)I"⟩
abbrev b_CI_lineUp : ByteArray := prog_2_method_7_code
def y_CI_lineUp : MethodName := ⟨R_CI, "lineUp", "(II)V"⟩
abbrev b_CN_addPacket : ByteArray := prog_1_method_16_code
def y_CN_addPacket : MethodName := ⟨R_CN, "addPacket", "(III)I"⟩
abbrev b_CN_send : ByteArray := prog_1_method_7_code
def y_CN_send : MethodName := ⟨R_CN, "send", "(III)I"⟩
abbrev b_CN_drawn : ByteArray := prog_1_method_17_code
def y_CN_drawn : MethodName := ⟨R_CN, "drawn", "()I"⟩
abbrev b_CN_load : ByteArray := prog_1_method_8_code
def y_CN_load : MethodName := ⟨R_CN, "load", "(I)I"⟩
abbrev b_CI_inUse : ByteArray := prog_2_method_2_code
def y_CI_inUse : MethodName := ⟨R_CI, "inUse", "()I"⟩
abbrev b_CK_firstWaiting : ByteArray := prog_3_method_3_code
def y_CK_firstWaiting : MethodName := ⟨R_CK, "firstWaiting", "(I)I"⟩
abbrev b_CI_frontOf : ByteArray := prog_2_method_5_code
def y_CI_frontOf : MethodName := ⟨R_CI, "frontOf", "(I)I"⟩
abbrev b_CK_isHead : ByteArray := prog_3_method_6_code
def y_CK_isHead : MethodName := ⟨R_CK, "isHead", "(I)Z"⟩
abbrev b_CP_endOf : ByteArray := prog_4_method_8_code
def y_CP_endOf : MethodName := ⟨R_CP, "endOf", "(I)I"⟩
abbrev b_CI_nodeOf : ByteArray := prog_2_method_3_code
def y_CI_nodeOf : MethodName := ⟨R_CI, "nodeOf", "(I)I"⟩
abbrev b_CK_endOf : ByteArray := prog_3_method_5_code
def y_CK_endOf : MethodName := ⟨R_CK, "endOf", "(I)I"⟩
abbrev b_CT_channelToGet : ByteArray := prog_6_method_6_code
def y_CT_channelToGet : MethodName := ⟨R_CT, "channelToGet", "(I)I"⟩
abbrev b_CK_packetOf : ByteArray := prog_3_method_4_code
def y_CK_packetOf : MethodName := ⟨R_CK, "packetOf", "(I)I"⟩
abbrev b_CT_askAll : ByteArray := prog_6_method_3_code
def y_CT_askAll : MethodName := ⟨R_CT, "askAll", "()Z"⟩
abbrev b_CI_hasRoom : ByteArray := prog_2_method_4_code
def y_CI_hasRoom : MethodName := ⟨R_CI, "hasRoom", "(I)Z"⟩
abbrev b_CT_canMoveInto : ByteArray := prog_6_method_8_code
def y_CT_canMoveInto : MethodName := ⟨R_CT, "canMoveInto", "(I)Z"⟩
abbrev b_CT_laneToMove : ByteArray := prog_6_method_7_code
def y_CT_laneToMove : MethodName := ⟨R_CT, "laneToMove", "(I)I"⟩
abbrev b_CI_dropFromBuffer : ByteArray := prog_2_method_11_code
def y_CI_dropFromBuffer : MethodName := ⟨R_CI, "dropFromBuffer", "(I)V"⟩
abbrev b_CI_dropFromQueue : ByteArray := prog_2_method_10_code
def y_CI_dropFromQueue : MethodName := ⟨R_CI, "dropFromQueue", "(I)V"⟩
abbrev b_CI_dropFront : ByteArray := prog_2_method_9_code
def y_CI_dropFront : MethodName := ⟨R_CI, "dropFront", "(I)V"⟩
abbrev b_CI_put : ByteArray := prog_2_method_8_code
def y_CI_put : MethodName := ⟨R_CI, "put", "(II)V"⟩
abbrev b_CK_isTail : ByteArray := prog_3_method_7_code
def y_CK_isTail : MethodName := ⟨R_CK, "isTail", "(I)Z"⟩
abbrev b_CT_moveInto : ByteArray := prog_6_method_9_code
def y_CT_moveInto : MethodName := ⟨R_CT, "moveInto", "(I)V"⟩
abbrev b_CT_moveAll : ByteArray := prog_6_method_4_code
def y_CT_moveAll : MethodName := ⟨R_CT, "moveAll", "()Z"⟩
abbrev b_CT_flitToLeave : ByteArray := prog_6_method_10_code
def y_CT_flitToLeave : MethodName := ⟨R_CT, "flitToLeave", "(I)I"⟩
abbrev b_CK_leave : ByteArray := prog_3_method_8_code
def y_CK_leave : MethodName := ⟨R_CK, "leave", "(II)V"⟩
abbrev b_CT_leaveAll : ByteArray := prog_6_method_5_code
def y_CT_leaveAll : MethodName := ⟨R_CT, "leaveAll", "()Z"⟩
abbrev b_CI_endCycle : ByteArray := prog_2_method_12_code
def y_CI_endCycle : MethodName := ⟨R_CI, "endCycle", "()V"⟩
abbrev b_CT_goOneCycle : ByteArray := prog_6_method_2_code
def y_CT_goOneCycle : MethodName := ⟨R_CT, "goOneCycle", "()Z"⟩
abbrev b_CN_run : ByteArray := prog_1_method_9_code
def y_CN_run : MethodName := ⟨R_CN, "run", "(I)I"⟩
abbrev b_CN_packet : ByteArray := prog_1_method_10_code
def y_CN_packet : MethodName := ⟨R_CN, "packet", "(II)I"⟩
abbrev b_CI_frontPacketIn : ByteArray := prog_2_method_6_code
def y_CI_frontPacketIn : MethodName := ⟨R_CI, "frontPacketIn", "(I)I"⟩
abbrev b_CN_channel : ByteArray := prog_1_method_11_code
def y_CN_channel : MethodName := ⟨R_CN, "channel", "(II)I"⟩
abbrev b_CR_channelAfter : ByteArray := prog_5_method_4_code
def y_CR_channelAfter : MethodName := ⟨R_CR, "channelAfter", "(II)I"⟩
abbrev b_CR_gatherSteps : ByteArray := prog_5_method_3_code
def y_CR_gatherSteps : MethodName := ⟨R_CR, "gatherSteps", "()V"⟩
abbrev b_CR_closeAt : ByteArray := prog_5_method_5_code
def y_CR_closeAt : MethodName := ⟨R_CR, "closeAt", "(I)I"⟩
abbrev b_CR_search : ByteArray := prog_5_method_2_code
def y_CR_search : MethodName := ⟨R_CR, "search", "()V"⟩
abbrev b_CN_ring : ByteArray := prog_1_method_12_code
def y_CN_ring : MethodName := ⟨R_CN, "ring", "()I"⟩
abbrev b_CR_lowestThatCloses : ByteArray := prog_5_method_7_code
def y_CR_lowestThatCloses : MethodName := ⟨R_CR, "lowestThatCloses", "(II)I"⟩
abbrev b_CR_channelBehind : ByteArray := prog_5_method_6_code
def y_CR_channelBehind : MethodName := ⟨R_CR, "channelBehind", "(I)I"⟩
abbrev b_CN_ringAt : ByteArray := prog_1_method_13_code
def y_CN_ringAt : MethodName := ⟨R_CN, "ringAt", "(I)I"⟩
abbrev b_CT_isAtRest : ByteArray := prog_6_method_11_code
def y_CT_isAtRest : MethodName := ⟨R_CT, "isAtRest", "()Z"⟩
abbrev b_CN_stuck : ByteArray := prog_1_method_14_code
def y_CN_stuck : MethodName := ⟨R_CN, "stuck", "()Z"⟩
abbrev b_CK_sumOf : ByteArray := prog_3_method_12_code
def y_CK_sumOf : MethodName := ⟨R_CK, "sumOf", "([I)I"⟩
abbrev b_CK_flitsInQueues : ByteArray := prog_3_method_9_code
def y_CK_flitsInQueues : MethodName := ⟨R_CK, "flitsInQueues", "()I"⟩
abbrev b_CK_flitsInBuffers : ByteArray := prog_3_method_10_code
def y_CK_flitsInBuffers : MethodName := ⟨R_CK, "flitsInBuffers", "()I"⟩
abbrev b_CK_flitsLeft : ByteArray := prog_3_method_11_code
def y_CK_flitsLeft : MethodName := ⟨R_CK, "flitsLeft", "()I"⟩
abbrev b_CP_comesTo : ByteArray := prog_4_method_16_code
def y_CP_comesTo : MethodName := ⟨R_CP, "comesTo", "(II)Z"⟩
abbrev b_CP_pairsWithoutWay : ByteArray := prog_4_method_15_code
def y_CP_pairsWithoutWay : MethodName := ⟨R_CP, "pairsWithoutWay", "()I"⟩
abbrev b_CN_count : ByteArray := prog_1_method_15_code
def y_CN_count : MethodName := ⟨R_CN, "count", "(I)I"⟩
abbrev b_M_thrown : ByteArray := prog_8_method_2_code
def y_M_thrown : MethodName := ⟨R_M, "thrown", "()I"⟩
abbrev b_M_wrong : ByteArray := prog_8_method_3_code
def y_M_wrong : MethodName := ⟨R_M, "wrong", "(I)I"⟩
abbrev b_M_within : ByteArray := prog_8_method_4_code
def y_M_within : MethodName := ⟨R_M, "within", "(III)Z"⟩
abbrev b_M_isNode : ByteArray := prog_8_method_5_code
def y_M_isNode : MethodName := ⟨R_M, "isNode", "(I)Z"⟩
abbrev b_M_isChannel : ByteArray := prog_8_method_6_code
def y_M_isChannel : MethodName := ⟨R_M, "isChannel", "(I)Z"⟩
abbrev b_M_node : ByteArray := prog_8_method_7_code
def y_M_node : MethodName := ⟨R_M, "node", "()I"⟩
abbrev b_M_link : ByteArray := prog_8_method_8_code
def y_M_link : MethodName := ⟨R_M, "link", "(III)I"⟩
abbrev b_M_route : ByteArray := prog_8_method_9_code
def y_M_route : MethodName := ⟨R_M, "route", "(III)I"⟩
abbrev b_M_routes : ByteArray := prog_8_method_10_code
def y_M_routes : MethodName := ⟨R_M, "routes", "(I)I"⟩
abbrev b_M_fail : ByteArray := prog_8_method_11_code
def y_M_fail : MethodName := ⟨R_M, "fail", "(I)I"⟩
abbrev b_M_add : ByteArray := prog_8_method_12_code
def y_M_add : MethodName := ⟨R_M, "add", "(III)I"⟩
abbrev b_M_send : ByteArray := prog_8_method_13_code
def y_M_send : MethodName := ⟨R_M, "send", "(III)I"⟩
abbrev b_M_draw : ByteArray := prog_8_method_14_code
def y_M_draw : MethodName := ⟨R_M, "draw", "()I"⟩
abbrev b_M_load : ByteArray := prog_8_method_15_code
def y_M_load : MethodName := ⟨R_M, "load", "(I)I"⟩
abbrev b_M_front : ByteArray := prog_8_method_16_code
def y_M_front : MethodName := ⟨R_M, "front", "(I)I"⟩
abbrev b_M_take : ByteArray := prog_8_method_17_code
def y_M_take : MethodName := ⟨R_M, "take", "(II)V"⟩
abbrev b_M_nodeOf : ByteArray := prog_8_method_18_code
def y_M_nodeOf : MethodName := ⟨R_M, "nodeOf", "(I)I"⟩
abbrev b_M_isInput : ByteArray := prog_8_method_19_code
def y_M_isInput : MethodName := ⟨R_M, "isInput", "(II)Z"⟩
abbrev b_M_holds : ByteArray := prog_8_method_20_code
def y_M_holds : MethodName := ⟨R_M, "holds", "(I)Z"⟩
abbrev b_M_wanted : ByteArray := prog_8_method_21_code
def y_M_wanted : MethodName := ⟨R_M, "wanted", "(I)I"⟩
abbrev b_M_ask : ByteArray := prog_8_method_22_code
def y_M_ask : MethodName := ⟨R_M, "ask", "()V"⟩
abbrev b_M_mover : ByteArray := prog_8_method_23_code
def y_M_mover : MethodName := ⟨R_M, "mover", "(I)I"⟩
abbrev b_M_move : ByteArray := prog_8_method_24_code
def y_M_move : MethodName := ⟨R_M, "move", "(I)V"⟩
abbrev b_M_leave : ByteArray := prog_8_method_25_code
def y_M_leave : MethodName := ⟨R_M, "leave", "(II)V"⟩
abbrev b_M_step : ByteArray := prog_8_method_26_code
def y_M_step : MethodName := ⟨R_M, "step", "()V"⟩
abbrev b_M_isEmpty : ByteArray := prog_8_method_27_code
def y_M_isEmpty : MethodName := ⟨R_M, "isEmpty", "()Z"⟩
abbrev b_M_run : ByteArray := prog_8_method_28_code
def y_M_run : MethodName := ⟨R_M, "run", "(I)I"⟩
abbrev b_M_flitsIn : ByteArray := prog_8_method_29_code
def y_M_flitsIn : MethodName := ⟨R_M, "flitsIn", "(II)I"⟩
abbrev b_M_packet : ByteArray := prog_8_method_30_code
def y_M_packet : MethodName := ⟨R_M, "packet", "(II)I"⟩
abbrev b_M_channel : ByteArray := prog_8_method_31_code
def y_M_channel : MethodName := ⟨R_M, "channel", "(II)I"⟩
abbrev b_M_findLeads : ByteArray := prog_8_method_32_code
def y_M_findLeads : MethodName := ⟨R_M, "findLeads", "()V"⟩
abbrev b_M_measure : ByteArray := prog_8_method_33_code
def y_M_measure : MethodName := ⟨R_M, "measure", "(I)V"⟩
abbrev b_M_findRing : ByteArray := prog_8_method_34_code
def y_M_findRing : MethodName := ⟨R_M, "findRing", "()I"⟩
abbrev b_M_ring : ByteArray := prog_8_method_35_code
def y_M_ring : MethodName := ⟨R_M, "ring", "()I"⟩
abbrev b_M_ringAt : ByteArray := prog_8_method_36_code
def y_M_ringAt : MethodName := ⟨R_M, "ringAt", "(I)I"⟩
abbrev b_M_stuck : ByteArray := prog_8_method_37_code
def y_M_stuck : MethodName := ⟨R_M, "stuck", "()Z"⟩
abbrev b_M_hasWay : ByteArray := prog_8_method_38_code
def y_M_hasWay : MethodName := ⟨R_M, "hasWay", "(II)Z"⟩
abbrev b_M_count : ByteArray := prog_8_method_39_code
def y_M_count : MethodName := ⟨R_M, "count", "(I)I"⟩
def TT : List Cond :=
  [.fieldLink R_CP 37 R_CP "nodes" "I",
   .methodLink R_CP 41 y_CP_hasNode,
   .instanceMethod y_CP_hasNode,
   .selects R_CP y_CP_hasNode y_CP_hasNode,
   .initialized R_CP,
   .code y_CP_hasNode b_CP_hasNode 2 (some .boolean),
   .fieldLink R_CP 45 R_CP "links" "I",
   .fieldLink R_CP 9 R_CP "begin" "[I",
   .fieldLink R_CP 15 R_CP "end" "[I",
   .fieldLink R_CP 18 R_CP "lanes" "[I",
   .fieldLink R_CP 25 R_CP "ways" "[I",
   .methodLink R_CP 48 y_CP_hasLink,
   .instanceMethod y_CP_hasLink,
   .selects R_CP y_CP_hasLink y_CP_hasLink,
   .code y_CP_hasLink b_CP_hasLink 2 (some .boolean),
   .fieldLink R_CP 21 R_CP "failed" "[Z",
   .methodLink R_CP 54 y_CP_beginOf,
   .instanceMethod y_CP_beginOf,
   .selects R_CP y_CP_beginOf y_CP_beginOf,
   .code y_CP_beginOf b_CP_beginOf 2 (some .int),
   .methodLink R_CP 51 y_CP_hasChannel,
   .instanceMethod y_CP_hasChannel,
   .selects R_CP y_CP_hasChannel y_CP_hasChannel,
   .code y_CP_hasChannel b_CP_hasChannel 2 (some .boolean),
   .fieldLink R_CP 28 R_CP "distance" "[I",
   .methodLink R_CP 31 y_fill,
   .static y_fill,
   .initialized R_Arrays,
   .code y_fill b_fill 4 none,
   .methodLink R_CP 58 y_CP_changeWay,
   .instanceMethod y_CP_changeWay,
   .selects R_CP y_CP_changeWay y_CP_changeWay,
   .code y_CP_changeWay b_CP_changeWay 4 none,
   .methodLink R_CP 62 y_CP_bringsNearer,
   .instanceMethod y_CP_bringsNearer,
   .selects R_CP y_CP_bringsNearer y_CP_bringsNearer,
   .code y_CP_bringsNearer b_CP_bringsNearer 3 (some .boolean),
   .fieldLink R_CK 27 R_CK "many" "I",
   .fieldLink R_CK 9 R_CK "end" "[I",
   .fieldLink R_CK 15 R_CK "flits" "[I",
   .fieldLink R_CK 18 R_CK "waiting" "[I",
   .fieldLink R_CI 15 R_CI "lastPacket" "[I",
   .fieldLink R_CI 9 R_CI "firstPacket" "[I",
   .fieldLink R_CI 18 R_CI "packetBehind" "[I",
   .fieldLink R_CN 23 R_CN "packets" "LNetRoutes$Packets;",
   .fieldLink R_CN 32 R_CN "inputs" "LNetRoutes$Inputs;",
   .methodLink R_CN 229 y_CI_lineUp,
   .instanceMethod y_CI_lineUp,
   .selects R_CI y_CI_lineUp y_CI_lineUp,
   .initialized R_CI,
   .code y_CI_lineUp b_CI_lineUp 4 none,
   .methodLink R_CN 226 y_CK_add,
   .instanceMethod y_CK_add,
   .selects R_CK y_CK_add y_CK_add,
   .initialized R_CK,
   .code y_CK_add b_CK_add 4 (some .int),
   .constant R_CN 233 1103515245,
   .fieldLink R_CN 9 R_CN "seed" "I",
   .constant R_CN 234 2147483647,
   .constant R_CN 235 65536,
   .fieldLink R_CI 30 R_CI "plan" "LNetRoutes$Plan;",
   .fieldLink R_CI 44 R_CP "links" "I",
   .fieldLink R_CI 34 R_CI "packets" "LNetRoutes$Packets;",
   .methodLink R_CI 54 y_CK_firstWaiting,
   .instanceMethod y_CK_firstWaiting,
   .selects R_CK y_CK_firstWaiting y_CK_firstWaiting,
   .code y_CK_firstWaiting b_CK_firstWaiting 2 (some .int),
   .fieldLink R_CI 24 R_CI "size" "[I",
   .fieldLink R_CI 27 R_CI "fresh" "[I",
   .fieldLink R_CI 21 R_CI "slots" "[I",
   .methodLink R_CI 50 y_CP_endOf,
   .instanceMethod y_CP_endOf,
   .selects R_CP y_CP_endOf y_CP_endOf,
   .code y_CP_endOf b_CP_endOf 2 (some .int),
   .fieldLink R_CT 35 R_CT "inputs" "LNetRoutes$Inputs;",
   .fieldLink R_CT 31 R_CT "packets" "LNetRoutes$Packets;",
   .fieldLink R_CT 9 R_CT "holds" "[I",
   .fieldLink R_CT 27 R_CT "plan" "LNetRoutes$Plan;",
   .fieldLink R_CT 15 R_CT "holder" "[I",
   .methodLink R_CT 112 y_CP_wayAt,
   .instanceMethod y_CP_wayAt,
   .selects R_CP y_CP_wayAt y_CP_wayAt,
   .code y_CP_wayAt b_CP_wayAt 3 (some .int),
   .methodLink R_CT 109 y_CK_endOf,
   .instanceMethod y_CK_endOf,
   .selects R_CK y_CK_endOf y_CK_endOf,
   .code y_CK_endOf b_CK_endOf 2 (some .int),
   .methodLink R_CT 106 y_CI_nodeOf,
   .instanceMethod y_CI_nodeOf,
   .selects R_CI y_CI_nodeOf y_CI_nodeOf,
   .code y_CI_nodeOf b_CI_nodeOf 2 (some .int),
   .methodLink R_CT 102 y_CK_isHead,
   .instanceMethod y_CK_isHead,
   .selects R_CK y_CK_isHead y_CK_isHead,
   .code y_CK_isHead b_CK_isHead 2 (some .boolean),
   .methodLink R_CT 72 y_CI_frontOf,
   .instanceMethod y_CI_frontOf,
   .selects R_CI y_CI_frontOf y_CI_frontOf,
   .code y_CI_frontOf b_CI_frontOf 3 (some .int),
   .fieldLink R_CT 18 R_CT "heldFor" "[I",
   .methodLink R_CT 75 y_CK_packetOf,
   .instanceMethod y_CK_packetOf,
   .selects R_CK y_CK_packetOf y_CK_packetOf,
   .code y_CK_packetOf b_CK_packetOf 2 (some .int),
   .methodLink R_CT 68 y_CT_channelToGet,
   .instanceMethod y_CT_channelToGet,
   .selects R_CT y_CT_channelToGet y_CT_channelToGet,
   .initialized R_CT,
   .code y_CT_channelToGet b_CT_channelToGet 4 (some .int),
   .methodLink R_CT 64 y_CI_inUse,
   .instanceMethod y_CI_inUse,
   .selects R_CI y_CI_inUse y_CI_inUse,
   .code y_CI_inUse b_CI_inUse 1 (some .int),
   .methodLink R_CT 122 y_CI_hasRoom,
   .instanceMethod y_CI_hasRoom,
   .selects R_CI y_CI_hasRoom y_CI_hasRoom,
   .code y_CI_hasRoom b_CI_hasRoom 2 (some .boolean),
   .fieldLink R_CT 24 R_CT "lastLane" "[I",
   .fieldLink R_CT 116 R_CP "lanes" "[I",
   .methodLink R_CT 119 y_CT_canMoveInto,
   .instanceMethod y_CT_canMoveInto,
   .selects R_CT y_CT_canMoveInto y_CT_canMoveInto,
   .code y_CT_canMoveInto b_CT_canMoveInto 3 (some .boolean),
   .fieldLink R_CI 69 R_CK "waiting" "[I",
   .methodLink R_CI 66 y_CI_dropFromBuffer,
   .instanceMethod y_CI_dropFromBuffer,
   .selects R_CI y_CI_dropFromBuffer y_CI_dropFromBuffer,
   .code y_CI_dropFromBuffer b_CI_dropFromBuffer 4 none,
   .methodLink R_CI 62 y_CI_dropFromQueue,
   .instanceMethod y_CI_dropFromQueue,
   .selects R_CI y_CI_dropFromQueue y_CI_dropFromQueue,
   .code y_CI_dropFromQueue b_CI_dropFromQueue 3 none,
   .fieldLink R_CT 21 R_CT "entered" "[I",
   .fieldLink R_CT 128 R_CT "moved" "I",
   .methodLink R_CT 131 y_CK_isTail,
   .instanceMethod y_CK_isTail,
   .selects R_CK y_CK_isTail y_CK_isTail,
   .code y_CK_isTail b_CK_isTail 2 (some .boolean),
   .methodLink R_CT 125 y_CI_put,
   .instanceMethod y_CI_put,
   .selects R_CI y_CI_put y_CI_put,
   .code y_CI_put b_CI_put 3 none,
   .methodLink R_CT 99 y_CI_dropFront,
   .instanceMethod y_CI_dropFront,
   .selects R_CI y_CI_dropFront y_CI_dropFront,
   .code y_CI_dropFront b_CI_dropFront 2 none,
   .fieldLink R_CT 80 R_CP "links" "I",
   .methodLink R_CT 88 y_CT_moveInto,
   .instanceMethod y_CT_moveInto,
   .selects R_CT y_CT_moveInto y_CT_moveInto,
   .code y_CT_moveInto b_CT_moveInto 4 none,
   .methodLink R_CT 85 y_CT_laneToMove,
   .instanceMethod y_CT_laneToMove,
   .selects R_CT y_CT_laneToMove y_CT_laneToMove,
   .code y_CT_laneToMove b_CT_laneToMove 4 (some .int),
   .fieldLink R_CK 21 R_CK "left" "[I",
   .fieldLink R_CK 24 R_CK "arrivedIn" "[I",
   .fieldLink R_CK 39 R_CK "arrived" "I",
   .methodLink R_CK 35 y_CK_isTail,
   .methodLink R_CK 31 y_CK_packetOf,
   .fieldLink R_CT 45 R_CT "cycles" "I",
   .methodLink R_CT 95 y_CK_leave,
   .instanceMethod y_CK_leave,
   .selects R_CK y_CK_leave y_CK_leave,
   .code y_CK_leave b_CK_leave 4 none,
   .methodLink R_CT 92 y_CT_flitToLeave,
   .instanceMethod y_CT_flitToLeave,
   .selects R_CT y_CT_flitToLeave y_CT_flitToLeave,
   .code y_CT_flitToLeave b_CT_flitToLeave 3 (some .int),
   .methodLink R_CI 38 y_fill,
   .methodLink R_CT 59 y_CI_endCycle,
   .instanceMethod y_CI_endCycle,
   .selects R_CI y_CI_endCycle y_CI_endCycle,
   .code y_CI_endCycle b_CI_endCycle 1 none,
   .methodLink R_CT 56 y_CT_leaveAll,
   .instanceMethod y_CT_leaveAll,
   .selects R_CT y_CT_leaveAll y_CT_leaveAll,
   .code y_CT_leaveAll b_CT_leaveAll 4 (some .boolean),
   .methodLink R_CT 53 y_CT_moveAll,
   .instanceMethod y_CT_moveAll,
   .selects R_CT y_CT_moveAll y_CT_moveAll,
   .code y_CT_moveAll b_CT_moveAll 4 (some .boolean),
   .methodLink R_CT 49 y_CT_askAll,
   .instanceMethod y_CT_askAll,
   .selects R_CT y_CT_askAll y_CT_askAll,
   .code y_CT_askAll b_CT_askAll 4 (some .boolean),
   .methodLink R_CI 59 y_CK_packetOf,
   .fieldLink R_CR 24 R_CR "plan" "LNetRoutes$Plan;",
   .methodLink R_CR 56 y_CP_wayAt,
   .methodLink R_CR 63 y_CP_endOf,
   .fieldLink R_CR 9 R_CR "firstStep" "[I",
   .methodLink R_CR 47 y_fill,
   .fieldLink R_CR 53 R_CP "nodes" "I",
   .fieldLink R_CR 15 R_CR "nextStep" "[I",
   .methodLink R_CR 60 y_CR_channelAfter,
   .instanceMethod y_CR_channelAfter,
   .selects R_CR y_CR_channelAfter y_CR_channelAfter,
   .initialized R_CR,
   .code y_CR_channelAfter b_CR_channelAfter 3 (some .int),
   .fieldLink R_CR 18 R_CR "toClose" "[I",
   .fieldLink R_CR 21 R_CR "reached" "[I",
   .fieldLink R_CR 66 R_CP "ways" "[I",
   .fieldLink R_CR 31 R_CR "start" "I",
   .fieldLink R_CR 35 R_CR "length" "I",
   .fieldLink R_CR 38 R_CP "links" "I",
   .methodLink R_CR 43 y_CR_closeAt,
   .instanceMethod y_CR_closeAt,
   .selects R_CR y_CR_closeAt y_CR_closeAt,
   .code y_CR_closeAt b_CR_closeAt 8 (some .int),
   .methodLink R_CR 28 y_CR_gatherSteps,
   .instanceMethod y_CR_gatherSteps,
   .selects R_CR y_CR_gatherSteps y_CR_gatherSteps,
   .code y_CR_gatherSteps b_CR_gatherSteps 5 none,
   .fieldLink R_CN 50 R_CN "rings" "LNetRoutes$Rings;",
   .fieldLink R_CN 200 R_CR "length" "I",
   .methodLink R_CN 197 y_CR_search,
   .instanceMethod y_CR_search,
   .selects R_CR y_CR_search y_CR_search,
   .code y_CR_search b_CR_search 3 none,
   .methodLink R_CR 72 y_CP_beginOf,
   .methodLink R_CR 69 y_CR_lowestThatCloses,
   .instanceMethod y_CR_lowestThatCloses,
   .selects R_CR y_CR_lowestThatCloses y_CR_lowestThatCloses,
   .code y_CR_lowestThatCloses b_CR_lowestThatCloses 7 (some .int),
   .fieldLink R_CN 148 R_CK "arrived" "I",
   .fieldLink R_CN 125 R_CK "many" "I",
   .fieldLink R_CN 41 R_CN "traffic" "LNetRoutes$Traffic;",
   .methodLink R_CN 208 y_CT_isAtRest,
   .instanceMethod y_CT_isAtRest,
   .selects R_CT y_CT_isAtRest y_CT_isAtRest,
   .code y_CT_isAtRest b_CT_isAtRest 2 (some .boolean),
   .methodLink R_CK 42 y_CK_sumOf,
   .instanceMethod y_CK_sumOf,
   .selects R_CK y_CK_sumOf y_CK_sumOf,
   .code y_CK_sumOf b_CK_sumOf 4 (some .int),
   .methodLink R_CP 73 y_CP_endOf,
   .methodLink R_CP 69 y_CP_wayAt,
   .methodLink R_CP 66 y_CP_comesTo,
   .instanceMethod y_CP_comesTo,
   .selects R_CP y_CP_comesTo y_CP_comesTo,
   .code y_CP_comesTo b_CP_comesTo 6 (some .boolean),
   .fieldLink R_CN 16 R_CN "plan" "LNetRoutes$Plan;",
   .fieldLink R_CN 54 R_CP "nodes" "I",
   .fieldLink R_CN 75 R_CP "links" "I",
   .fieldLink R_CN 155 R_CT "cycles" "I",
   .methodLink R_CN 211 y_CK_flitsInQueues,
   .instanceMethod y_CK_flitsInQueues,
   .selects R_CK y_CK_flitsInQueues y_CK_flitsInQueues,
   .code y_CK_flitsInQueues b_CK_flitsInQueues 1 (some .int),
   .methodLink R_CN 214 y_CK_flitsInBuffers,
   .instanceMethod y_CK_flitsInBuffers,
   .selects R_CK y_CK_flitsInBuffers y_CK_flitsInBuffers,
   .code y_CK_flitsInBuffers b_CK_flitsInBuffers 1 (some .int),
   .fieldLink R_CN 217 R_CT "moved" "I",
   .methodLink R_CN 220 y_CK_flitsLeft,
   .instanceMethod y_CK_flitsLeft,
   .selects R_CK y_CK_flitsLeft y_CK_flitsLeft,
   .code y_CK_flitsLeft b_CK_flitsLeft 1 (some .int),
   .methodLink R_CN 223 y_CP_pairsWithoutWay,
   .instanceMethod y_CP_pairsWithoutWay,
   .selects R_CP y_CP_pairsWithoutWay y_CP_pairsWithoutWay,
   .code y_CP_pairsWithoutWay b_CP_pairsWithoutWay 4 (some .int),
   .methodLink R_CN 80 y_CP_addLink,
   .instanceMethod y_CP_addLink,
   .selects R_CP y_CP_addLink y_CP_addLink,
   .code y_CP_addLink b_CP_addLink 5 (some .int),
   .methodLink R_CN 64 y_CP_hasTwoNodes,
   .instanceMethod y_CP_hasTwoNodes,
   .selects R_CP y_CP_hasTwoNodes y_CP_hasTwoNodes,
   .code y_CP_hasTwoNodes b_CP_hasTwoNodes 3 (some .boolean),
   .methodLink R_CN 95 y_CP_changeWay,
   .methodLink R_CN 91 y_CP_wayAt,
   .methodLink R_CN 86 y_CP_canBeTaken,
   .instanceMethod y_CP_canBeTaken,
   .selects R_CP y_CP_canBeTaken y_CP_canBeTaken,
   .code y_CP_canBeTaken b_CP_canBeTaken 3 (some .boolean),
   .methodLink R_CN 105 y_CP_makeWaysTo,
   .instanceMethod y_CP_makeWaysTo,
   .selects R_CP y_CP_makeWaysTo y_CP_makeWaysTo,
   .code y_CP_makeWaysTo b_CP_makeWaysTo 5 (some .int),
   .methodLink R_CN 99 y_CP_hasNode,
   .fieldLink R_CN 112 R_CP "failed" "[Z",
   .methodLink R_CN 118 y_CP_breakLink,
   .instanceMethod y_CP_breakLink,
   .selects R_CP y_CP_breakLink y_CP_breakLink,
   .code y_CP_breakLink b_CP_breakLink 4 (some .int),
   .methodLink R_CN 109 y_CP_hasLink,
   .methodLink R_CN 130 y_CN_addPacket,
   .instanceMethod y_CN_addPacket,
   .selects R_CN y_CN_addPacket y_CN_addPacket,
   .initialized R_CN,
   .code y_CN_addPacket b_CN_addPacket 5 (some .int),
   .methodLink R_CN 142 y_CN_drawn,
   .instanceMethod y_CN_drawn,
   .selects R_CN y_CN_drawn y_CN_drawn,
   .code y_CN_drawn b_CN_drawn 1 (some .int),
   .methodLink R_CN 151 y_CT_goOneCycle,
   .instanceMethod y_CT_goOneCycle,
   .selects R_CT y_CT_goOneCycle y_CT_goOneCycle,
   .code y_CT_goOneCycle b_CT_goOneCycle 4 (some .boolean),
   .fieldLink R_CN 163 R_CK "arrivedIn" "[I",
   .fieldLink R_CN 167 R_CK "waiting" "[I",
   .fieldLink R_CN 170 R_CK "flits" "[I",
   .fieldLink R_CN 173 R_CK "left" "[I",
   .fieldLink R_CN 183 R_CI "size" "[I",
   .fieldLink R_CN 186 R_CT "heldFor" "[I",
   .methodLink R_CN 189 y_CI_frontPacketIn,
   .instanceMethod y_CI_frontPacketIn,
   .selects R_CI y_CI_frontPacketIn y_CI_frontPacketIn,
   .code y_CI_frontPacketIn b_CI_frontPacketIn 2 (some .int),
   .fieldLink R_CN 192 R_CT "entered" "[I",
   .methodLink R_CN 178 y_CP_hasChannel,
   .methodLink R_CN 205 y_CR_channelBehind,
   .instanceMethod y_CR_channelBehind,
   .selects R_CR y_CR_channelBehind y_CR_channelBehind,
   .code y_CR_channelBehind b_CR_channelBehind 4 (some .int),
   .fieldLink R_M 78 R_M "thrown" "I",
   .fieldLink R_M 81 R_M "nodes" "I",
   .methodLink R_M 84 y_M_within,
   .static y_M_within,
   .initialized R_M,
   .code y_M_within b_M_within 3 (some .boolean),
   .fieldLink R_M 88 R_M "links" "I",
   .fieldLink R_M 16 R_M "width" "[I",
   .methodLink R_M 91 y_M_wrong,
   .instanceMethod y_M_wrong,
   .selects R_M y_M_wrong y_M_wrong,
   .code y_M_wrong b_M_wrong 2 (some .int),
   .fieldLink R_M 7 R_M "from" "[I",
   .fieldLink R_M 13 R_M "to" "[I",
   .methodLink R_M 95 y_M_isNode,
   .instanceMethod y_M_isNode,
   .selects R_M y_M_isNode y_M_isNode,
   .code y_M_isNode b_M_isNode 2 (some .boolean),
   .fieldLink R_M 26 R_M "route" "[I",
   .fieldLink R_M 19 R_M "failed" "[Z",
   .methodLink R_M 99 y_M_isChannel,
   .instanceMethod y_M_isChannel,
   .selects R_M y_M_isChannel y_M_isChannel,
   .code y_M_isChannel b_M_isChannel 2 (some .boolean),
   .fieldLink R_M 68 R_M "away" "[I",
   .fieldLink R_M 102 R_M "packets" "I",
   .fieldLink R_M 29 R_M "source" "[I",
   .fieldLink R_M 32 R_M "end" "[I",
   .fieldLink R_M 35 R_M "size" "[I",
   .methodLink R_M 105 y_M_add,
   .instanceMethod y_M_add,
   .selects R_M y_M_add y_M_add,
   .code y_M_add b_M_add 5 (some .int),
   .constant R_M 109 1103515245,
   .fieldLink R_M 74 R_M "x" "I",
   .constant R_M 110 2147483647,
   .constant R_M 111 65536,
   .methodLink R_M 112 y_M_draw,
   .instanceMethod y_M_draw,
   .selects R_M y_M_draw y_M_draw,
   .code y_M_draw b_M_draw 1 (some .int),
   .fieldLink R_M 38 R_M "sent" "[I",
   .fieldLink R_M 47 R_M "filled" "[I",
   .fieldLink R_M 53 R_M "since" "[I",
   .fieldLink R_M 116 R_M "cycle" "I",
   .fieldLink R_M 50 R_M "flit" "[I",
   .methodLink R_M 119 y_M_nodeOf,
   .instanceMethod y_M_nodeOf,
   .selects R_M y_M_nodeOf y_M_nodeOf,
   .code y_M_nodeOf b_M_nodeOf 2 (some .int),
   .fieldLink R_M 59 R_M "holder" "[I",
   .methodLink R_M 125 y_M_holds,
   .instanceMethod y_M_holds,
   .selects R_M y_M_holds y_M_holds,
   .code y_M_holds b_M_holds 4 (some .boolean),
   .methodLink R_M 122 y_M_front,
   .instanceMethod y_M_front,
   .selects R_M y_M_front y_M_front,
   .code y_M_front b_M_front 3 (some .int),
   .fieldLink R_M 62 R_M "holding" "[I",
   .methodLink R_M 132 y_M_wanted,
   .instanceMethod y_M_wanted,
   .selects R_M y_M_wanted y_M_wanted,
   .code y_M_wanted b_M_wanted 5 (some .int),
   .methodLink R_M 128 y_M_isInput,
   .instanceMethod y_M_isInput,
   .selects R_M y_M_isInput y_M_isInput,
   .code y_M_isInput b_M_isInput 3 (some .boolean),
   .fieldLink R_M 23 R_M "last" "[I",
   .fieldLink R_M 142 R_M "moved" "I",
   .fieldLink R_M 56 R_M "passed" "[I",
   .methodLink R_M 138 y_M_take,
   .instanceMethod y_M_take,
   .selects R_M y_M_take y_M_take,
   .code y_M_take b_M_take 5 none,
   .methodLink R_M 135 y_M_mover,
   .instanceMethod y_M_mover,
   .selects R_M y_M_mover y_M_mover,
   .code y_M_mover b_M_mover 4 (some .int),
   .fieldLink R_M 41 R_M "gone" "[I",
   .fieldLink R_M 145 R_M "left" "I",
   .fieldLink R_M 44 R_M "came" "[I",
   .fieldLink R_M 148 R_M "arrived" "I",
   .methodLink R_M 158 y_M_leave,
   .instanceMethod y_M_leave,
   .selects R_M y_M_leave y_M_leave,
   .code y_M_leave b_M_leave 4 none,
   .methodLink R_M 154 y_M_move,
   .instanceMethod y_M_move,
   .selects R_M y_M_move y_M_move,
   .code y_M_move b_M_move 4 none,
   .methodLink R_M 151 y_M_ask,
   .instanceMethod y_M_ask,
   .selects R_M y_M_ask y_M_ask,
   .code y_M_ask b_M_ask 4 none,
   .methodLink R_M 165 y_M_step,
   .instanceMethod y_M_step,
   .selects R_M y_M_step y_M_step,
   .code y_M_step b_M_step 3 none,
   .methodLink R_M 161 y_M_isEmpty,
   .instanceMethod y_M_isEmpty,
   .selects R_M y_M_isEmpty y_M_isEmpty,
   .code y_M_isEmpty b_M_isEmpty 1 (some .boolean),
   .methodLink R_M 168 y_M_flitsIn,
   .instanceMethod y_M_flitsIn,
   .selects R_M y_M_flitsIn y_M_flitsIn,
   .code y_M_flitsIn b_M_flitsIn 3 (some .int),
   .fieldLink R_M 65 R_M "leads" "[Z",
   .fieldLink R_M 71 R_M "ring" "[I",
   .methodLink R_M 175 y_M_measure,
   .instanceMethod y_M_measure,
   .selects R_M y_M_measure y_M_measure,
   .code y_M_measure b_M_measure 7 none,
   .methodLink R_M 172 y_M_findLeads,
   .instanceMethod y_M_findLeads,
   .selects R_M y_M_findLeads y_M_findLeads,
   .code y_M_findLeads b_M_findLeads 6 none,
   .methodLink R_M 178 y_M_findRing,
   .instanceMethod y_M_findRing,
   .selects R_M y_M_findRing y_M_findRing,
   .code y_M_findRing b_M_findRing 6 (some .int),
   .methodLink R_M 181 y_M_hasWay,
   .instanceMethod y_M_hasWay,
   .selects R_M y_M_hasWay y_M_hasWay,
   .code y_M_hasWay b_M_hasWay 6 (some .boolean),
   .laysFinal R_CN R_CN "plan" "LNetRoutes$Plan;",
   .laysFinal R_CN R_CN "packets" "LNetRoutes$Packets;",
   .laysFinal R_CN R_CN "inputs" "LNetRoutes$Inputs;",
   .laysFinal R_CN R_CN "traffic" "LNetRoutes$Traffic;",
   .laysFinal R_CN R_CN "rings" "LNetRoutes$Rings;",
   .lays R_CN R_CN "seed" "I",
   .lays R_CP R_CP "nodes" "I",
   .lays R_CP R_CP "links" "I",
   .laysFinal R_CP R_CP "begin" "[I",
   .laysFinal R_CP R_CP "end" "[I",
   .laysFinal R_CP R_CP "lanes" "[I",
   .laysFinal R_CP R_CP "failed" "[Z",
   .laysFinal R_CP R_CP "ways" "[I",
   .laysFinal R_CP R_CP "distance" "[I",
   .lays R_CK R_CK "many" "I",
   .lays R_CK R_CK "arrived" "I",
   .laysFinal R_CK R_CK "end" "[I",
   .laysFinal R_CK R_CK "flits" "[I",
   .laysFinal R_CK R_CK "waiting" "[I",
   .laysFinal R_CK R_CK "left" "[I",
   .laysFinal R_CK R_CK "arrivedIn" "[I",
   .laysFinal R_CI R_CI "plan" "LNetRoutes$Plan;",
   .laysFinal R_CI R_CI "packets" "LNetRoutes$Packets;",
   .laysFinal R_CI R_CI "firstPacket" "[I",
   .laysFinal R_CI R_CI "lastPacket" "[I",
   .laysFinal R_CI R_CI "packetBehind" "[I",
   .laysFinal R_CI R_CI "slots" "[I",
   .laysFinal R_CI R_CI "size" "[I",
   .laysFinal R_CI R_CI "fresh" "[I",
   .laysFinal R_CT R_CT "plan" "LNetRoutes$Plan;",
   .laysFinal R_CT R_CT "packets" "LNetRoutes$Packets;",
   .laysFinal R_CT R_CT "inputs" "LNetRoutes$Inputs;",
   .laysFinal R_CT R_CT "holds" "[I",
   .laysFinal R_CT R_CT "holder" "[I",
   .laysFinal R_CT R_CT "heldFor" "[I",
   .laysFinal R_CT R_CT "entered" "[I",
   .laysFinal R_CT R_CT "lastLane" "[I",
   .lays R_CT R_CT "cycles" "I",
   .lays R_CT R_CT "moved" "I",
   .laysFinal R_CR R_CR "plan" "LNetRoutes$Plan;",
   .laysFinal R_CR R_CR "firstStep" "[I",
   .laysFinal R_CR R_CR "nextStep" "[I",
   .laysFinal R_CR R_CR "toClose" "[I",
   .laysFinal R_CR R_CR "reached" "[I",
   .lays R_CR R_CR "start" "I",
   .lays R_CR R_CR "length" "I",
   .lays R_M R_M "thrown" "I",
   .lays R_M R_M "x" "I",
   .lays R_M R_M "nodes" "I",
   .lays R_M R_M "links" "I",
   .lays R_M R_M "packets" "I",
   .lays R_M R_M "cycle" "I",
   .lays R_M R_M "moved" "I",
   .lays R_M R_M "left" "I",
   .lays R_M R_M "arrived" "I",
   .laysFinal R_M R_M "from" "[I",
   .laysFinal R_M R_M "to" "[I",
   .laysFinal R_M R_M "width" "[I",
   .laysFinal R_M R_M "failed" "[Z",
   .laysFinal R_M R_M "last" "[I",
   .laysFinal R_M R_M "route" "[I",
   .laysFinal R_M R_M "source" "[I",
   .laysFinal R_M R_M "end" "[I",
   .laysFinal R_M R_M "size" "[I",
   .laysFinal R_M R_M "sent" "[I",
   .laysFinal R_M R_M "gone" "[I",
   .laysFinal R_M R_M "came" "[I",
   .laysFinal R_M R_M "filled" "[I",
   .laysFinal R_M R_M "flit" "[I",
   .laysFinal R_M R_M "since" "[I",
   .laysFinal R_M R_M "passed" "[I",
   .laysFinal R_M R_M "holder" "[I",
   .laysFinal R_M R_M "holding" "[I",
   .laysFinal R_M R_M "leads" "[Z",
   .laysFinal R_M R_M "away" "[I",
   .laysFinal R_M R_M "ring" "[I",
   .code y_CN_node b_CN_node 1 (some .int),
   .code y_CN_link b_CN_link 4 (some .int),
   .code y_CN_route b_CN_route 5 (some .int),
   .code y_CN_routes b_CN_routes 2 (some .int),
   .code y_CN_fail b_CN_fail 2 (some .int),
   .code y_CN_send b_CN_send 4 (some .int),
   .code y_CN_load b_CN_load 6 (some .int),
   .code y_CN_run b_CN_run 5 (some .int),
   .code y_CN_packet b_CN_packet 3 (some .int),
   .code y_CN_channel b_CN_channel 3 (some .int),
   .code y_CN_ring b_CN_ring 1 (some .int),
   .code y_CN_ringAt b_CN_ringAt 2 (some .int),
   .code y_CN_stuck b_CN_stuck 1 (some .boolean),
   .code y_CN_count b_CN_count 2 (some .int),
   .code y_M_thrown b_M_thrown 1 (some .int),
   .code y_M_node b_M_node 1 (some .int),
   .code y_M_link b_M_link 4 (some .int),
   .code y_M_route b_M_route 5 (some .int),
   .code y_M_routes b_M_routes 7 (some .int),
   .code y_M_fail b_M_fail 4 (some .int),
   .code y_M_send b_M_send 4 (some .int),
   .code y_M_load b_M_load 5 (some .int),
   .code y_M_run b_M_run 4 (some .int),
   .code y_M_packet b_M_packet 3 (some .int),
   .code y_M_channel b_M_channel 3 (some .int),
   .code y_M_ring b_M_ring 1 (some .int),
   .code y_M_ringAt b_M_ringAt 3 (some .int),
   .code y_M_stuck b_M_stuck 5 (some .boolean),
   .code y_M_count b_M_count 5 (some .int),
   .initialized "NetRoutesLaw",
   .initialized "java/lang/Throwable",
   .initialized "java/lang/Exception",
   .initialized "java/lang/RuntimeException",
   .initialized "java/lang/UnsupportedOperationException",
   .initialized "java/lang/IllegalArgumentException",
   .initialized "java/lang/IllegalStateException",
   .initialized "java/lang/IndexOutOfBoundsException",
   .classLink "NetRoutesLaw" 8 "NetRoutes",
   .instantiable "NetRoutes" 6,
   .methodLink "NetRoutesLaw" 60 ⟨"NetRoutes", "<init>", "(I)V"⟩,
   .instanceMethod ⟨"NetRoutes", "<init>", "(I)V"⟩,
   .code ⟨"NetRoutes", "<init>", "(I)V"⟩ prog_1_method_1_code 2 none,
   .methodLink "NetRoutes" 3 ⟨"java/lang/Object", "<init>", "()V"⟩,
   .instanceMethod ⟨"java/lang/Object", "<init>", "()V"⟩,
   .code ⟨"java/lang/Object", "<init>", "()V"⟩ object_method_1_code 1 none,
   .classLink "NetRoutes" 13 "NetRoutes$Plan",
   .instantiable "NetRoutes$Plan" 8,
   .methodLink "NetRoutes" 15 ⟨"NetRoutes$Plan", "<init>", "()V"⟩,
   .instanceMethod ⟨"NetRoutes$Plan", "<init>", "()V"⟩,
   .code ⟨"NetRoutes$Plan", "<init>", "()V"⟩ prog_4_method_1_code 1 none,
   .methodLink "NetRoutes$Plan" 3 ⟨"java/lang/Object", "<init>", "()V"⟩,
   .superclass "NetRoutes$Plan" "java/lang/Object",
   .arrayClass .int,
   .arrayClass .boolean,
   .classLink "NetRoutes" 20 "NetRoutes$Packets",
   .instantiable "NetRoutes$Packets" 7,
   .instanceMethod ⟨"NetRoutes$Packets", "<init>", "()V"⟩,
   .code ⟨"NetRoutes$Packets", "<init>", "()V"⟩ prog_3_method_1_code 1 none,
   .methodLink "NetRoutes$Packets" 3 ⟨"java/lang/Object", "<init>", "()V"⟩,
   .superclass "NetRoutes$Packets" "java/lang/Object",
   .classLink "NetRoutes" 27 "NetRoutes$Inputs",
   .instantiable "NetRoutes$Inputs" 8,
   .methodLink "NetRoutes" 29 ⟨"NetRoutes$Inputs", "<init>", "(LNetRoutes$Plan;LNetRoutes$Packets;)V"⟩,
   .instanceMethod ⟨"NetRoutes$Inputs", "<init>", "(LNetRoutes$Plan;LNetRoutes$Packets;)V"⟩,
   .code ⟨"NetRoutes$Inputs", "<init>", "(LNetRoutes$Plan;LNetRoutes$Packets;)V"⟩ prog_2_method_1_code 3 none,
   .methodLink "NetRoutes$Inputs" 3 ⟨"java/lang/Object", "<init>", "()V"⟩,
   .superclass "NetRoutes$Inputs" "java/lang/Object",
   .classLink "NetRoutes" 36 "NetRoutes$Traffic",
   .instantiable "NetRoutes$Traffic" 10,
   .methodLink "NetRoutes" 38 ⟨"NetRoutes$Traffic", "<init>", "(LNetRoutes$Plan;LNetRoutes$Packets;LNetRoutes$Inputs;)V"⟩,
   .instanceMethod ⟨"NetRoutes$Traffic", "<init>", "(LNetRoutes$Plan;LNetRoutes$Packets;LNetRoutes$Inputs;)V"⟩,
   .code ⟨"NetRoutes$Traffic", "<init>", "(LNetRoutes$Plan;LNetRoutes$Packets;LNetRoutes$Inputs;)V"⟩ prog_6_method_1_code 4 none,
   .methodLink "NetRoutes$Traffic" 3 ⟨"java/lang/Object", "<init>", "()V"⟩,
   .methodLink "NetRoutes$Traffic" 39 ⟨"java/util/Arrays", "fill", "([II)V"⟩,
   .superclass "NetRoutes$Traffic" "java/lang/Object",
   .classLink "NetRoutes" 45 "NetRoutes$Rings",
   .instantiable "NetRoutes$Rings" 7,
   .methodLink "NetRoutes" 47 ⟨"NetRoutes$Rings", "<init>", "(LNetRoutes$Plan;)V"⟩,
   .instanceMethod ⟨"NetRoutes$Rings", "<init>", "(LNetRoutes$Plan;)V"⟩,
   .code ⟨"NetRoutes$Rings", "<init>", "(LNetRoutes$Plan;)V"⟩ prog_5_method_1_code 2 none,
   .methodLink "NetRoutes$Rings" 3 ⟨"java/lang/Object", "<init>", "()V"⟩,
   .superclass "NetRoutes$Rings" "java/lang/Object",
   .superclass "NetRoutes" "java/lang/Object",
   .methodLink "NetRoutesLaw" 103 ⟨"NetRoutes", "ring", "()I"⟩,
   .instanceMethod ⟨"NetRoutes", "ring", "()I"⟩,
   .selects "NetRoutes" ⟨"NetRoutes", "ring", "()I"⟩ ⟨"NetRoutes", "ring", "()I"⟩,
   .methodLink "NetRoutesLaw" 110 ⟨"NetRoutes", "stuck", "()Z"⟩,
   .instanceMethod ⟨"NetRoutes", "stuck", "()Z"⟩,
   .selects "NetRoutes" ⟨"NetRoutes", "stuck", "()Z"⟩ ⟨"NetRoutes", "stuck", "()Z"⟩,
   .methodLink "NetRoutesLaw" 115 ⟨"NetRoutes", "count", "(I)I"⟩,
   .instanceMethod ⟨"NetRoutes", "count", "(I)I"⟩,
   .selects "NetRoutes" ⟨"NetRoutes", "count", "(I)I"⟩ ⟨"NetRoutes", "count", "(I)I"⟩,
   .methodLink "NetRoutesLaw" 54 ⟨"NetRoutesLaw", "cell", "([II)I"⟩,
   .static ⟨"NetRoutesLaw", "cell", "([II)I"⟩,
   .code ⟨"NetRoutesLaw", "cell", "([II)I"⟩ method_2_code 2 (some .int),
   .methodLink "NetRoutesLaw" 66 ⟨"NetRoutesLaw", "node", "(LNetRoutes;[J)I"⟩,
   .static ⟨"NetRoutesLaw", "node", "(LNetRoutes;[J)I"⟩,
   .codeWith ⟨"NetRoutesLaw", "node", "(LNetRoutes;[J)I"⟩ method_3_code 3 (some .int) [(0, 8, 11, 13)],
   .classLink "NetRoutesLaw" 13 "java/lang/UnsupportedOperationException",
   .methodLink "NetRoutesLaw" 7 ⟨"NetRoutes", "node", "()I"⟩,
   .instanceMethod ⟨"NetRoutes", "node", "()I"⟩,
   .selects "NetRoutes" ⟨"NetRoutes", "node", "()I"⟩ ⟨"NetRoutes", "node", "()I"⟩,
   .classLink "NetRoutes" 57 "java/lang/UnsupportedOperationException",
   .instantiable "java/lang/UnsupportedOperationException" 6,
   .selects "java/lang/UnsupportedOperationException" ⟨"java/lang/Throwable", "fillInStackTrace", "(I)Ljava/lang/Throwable;"⟩ ⟨"java/lang/Throwable", "fillInStackTrace", "(I)Ljava/lang/Throwable;"⟩,
   .selects "java/lang/UnsupportedOperationException" ⟨"java/lang/Throwable", "fillInStackTrace", "()Ljava/lang/Throwable;"⟩ ⟨"java/lang/Throwable", "fillInStackTrace", "()Ljava/lang/Throwable;"⟩,
   .lays "java/lang/UnsupportedOperationException" "java/lang/Throwable" "cause" "Ljava/lang/Throwable;",
   .lays "java/lang/Throwable" "java/lang/Throwable" "cause" "Ljava/lang/Throwable;",
   .lays "java/lang/UnsupportedOperationException" "java/lang/Throwable" "stackTrace" "[Ljava/lang/StackTraceElement;",
   .lays "java/lang/Throwable" "java/lang/Throwable" "stackTrace" "[Ljava/lang/StackTraceElement;",
   .lays "java/lang/UnsupportedOperationException" "java/lang/Throwable" "suppressedExceptions" "Ljava/util/List;",
   .lays "java/lang/Throwable" "java/lang/Throwable" "suppressedExceptions" "Ljava/util/List;",
   .lays "java/lang/UnsupportedOperationException" "java/lang/Throwable" "detailMessage" "Ljava/lang/String;",
   .lays "java/lang/Throwable" "java/lang/Throwable" "detailMessage" "Ljava/lang/String;",
   .lays "java/lang/UnsupportedOperationException" "java/lang/Throwable" "backtrace" "Ljava/lang/Object;",
   .lays "java/lang/Throwable" "java/lang/Throwable" "backtrace" "Ljava/lang/Object;",
   .fieldLink "java/lang/Throwable" 198 "java/lang/Throwable" "backtrace" "Ljava/lang/Object;",
   .superclass "java/lang/Throwable" "java/lang/Object",
   .instanceMethod ⟨"java/lang/Throwable", "<init>", "()V"⟩,
   .code ⟨"java/lang/Throwable", "<init>", "()V"⟩ prog_15_method_1_code 1 none,
   .methodLink "java/lang/Throwable" 1 ⟨"java/lang/Object", "<init>", "()V"⟩,
   .fieldLink "java/lang/Throwable" 13 "java/lang/Throwable" "UNASSIGNED_STACK" "[Ljava/lang/StackTraceElement;",
   .fieldLink "java/lang/Throwable" 20 "java/lang/Throwable" "SUPPRESSED_SENTINEL" "Ljava/util/List;",
   .methodLink "java/lang/Throwable" 27 ⟨"java/lang/Throwable", "fillInStackTrace", "()Ljava/lang/Throwable;"⟩,
   .instanceMethod ⟨"java/lang/Throwable", "fillInStackTrace", "()Ljava/lang/Throwable;"⟩,
   .sameMethod "java/lang/Throwable" "java/lang/Throwable" "fillInStackTrace" "()Ljava/lang/Throwable;",
   .selects "java/lang/IllegalArgumentException" ⟨"java/lang/Throwable", "fillInStackTrace", "()Ljava/lang/Throwable;"⟩ ⟨"java/lang/Throwable", "fillInStackTrace", "()Ljava/lang/Throwable;"⟩,
   .selects "java/lang/IllegalStateException" ⟨"java/lang/Throwable", "fillInStackTrace", "()Ljava/lang/Throwable;"⟩ ⟨"java/lang/Throwable", "fillInStackTrace", "()Ljava/lang/Throwable;"⟩,
   .selects "java/lang/IndexOutOfBoundsException" ⟨"java/lang/Throwable", "fillInStackTrace", "()Ljava/lang/Throwable;"⟩ ⟨"java/lang/Throwable", "fillInStackTrace", "()Ljava/lang/Throwable;"⟩,
   .codeSync ⟨"java/lang/Throwable", "fillInStackTrace", "()Ljava/lang/Throwable;"⟩ prog_15_method_18_code 1 (some (.object "java/lang/Throwable")),
   .methodLink "java/lang/Throwable" 202 ⟨"java/lang/Throwable", "fillInStackTrace", "(I)Ljava/lang/Throwable;"⟩,
   .instanceMethod ⟨"java/lang/Throwable", "fillInStackTrace", "(I)Ljava/lang/Throwable;"⟩,
   .instantiable "java/lang/Throwable" 6,
   .native ⟨"java/lang/Throwable", "fillInStackTrace", "(I)Ljava/lang/Throwable;"⟩,
   .methodLink "NetRoutes" 61 ⟨"java/lang/UnsupportedOperationException", "<init>", "(Ljava/lang/String;)V"⟩,
   .instanceMethod ⟨"java/lang/UnsupportedOperationException", "<init>", "(Ljava/lang/String;)V"⟩,
   .code ⟨"java/lang/UnsupportedOperationException", "<init>", "(Ljava/lang/String;)V"⟩ prog_16_method_2_code 2 none,
   .methodLink "java/lang/UnsupportedOperationException" 7 ⟨"java/lang/RuntimeException", "<init>", "(Ljava/lang/String;)V"⟩,
   .instanceMethod ⟨"java/lang/RuntimeException", "<init>", "(Ljava/lang/String;)V"⟩,
   .code ⟨"java/lang/RuntimeException", "<init>", "(Ljava/lang/String;)V"⟩ prog_13_method_2_code 2 none,
   .methodLink "java/lang/RuntimeException" 7 ⟨"java/lang/Exception", "<init>", "(Ljava/lang/String;)V"⟩,
   .instanceMethod ⟨"java/lang/Exception", "<init>", "(Ljava/lang/String;)V"⟩,
   .code ⟨"java/lang/Exception", "<init>", "(Ljava/lang/String;)V"⟩ prog_9_method_2_code 2 none,
   .methodLink "java/lang/Exception" 7 ⟨"java/lang/Throwable", "<init>", "(Ljava/lang/String;)V"⟩,
   .instanceMethod ⟨"java/lang/Throwable", "<init>", "(Ljava/lang/String;)V"⟩,
   .code ⟨"java/lang/Throwable", "<init>", "(Ljava/lang/String;)V"⟩ prog_15_method_2_code 2 none,
   .fieldLink "java/lang/Throwable" 31 "java/lang/Throwable" "detailMessage" "Ljava/lang/String;",
   .fieldLink "java/lang/Throwable" 7 "java/lang/Throwable" "cause" "Ljava/lang/Throwable;",
   .fieldLink "java/lang/Throwable" 17 "java/lang/Throwable" "stackTrace" "[Ljava/lang/StackTraceElement;",
   .fieldLink "java/lang/Throwable" 24 "java/lang/Throwable" "suppressedExceptions" "Ljava/util/List;",
   .lays "java/lang/UnsupportedOperationException" "java/lang/Throwable" "depth" "I",
   .superclass "java/lang/UnsupportedOperationException" "java/lang/RuntimeException",
   .arrayClass .byte,
   .methodLink "NetRoutesLaw" 73 ⟨"NetRoutesLaw", "link", "(LNetRoutes;III[J)I"⟩,
   .static ⟨"NetRoutesLaw", "link", "(LNetRoutes;III[J)I"⟩,
   .codeWith ⟨"NetRoutesLaw", "link", "(LNetRoutes;III[J)I"⟩ method_4_code 6 (some .int) [(0, 12, 15, 19), (0, 12, 19, 13)],
   .classLink "NetRoutesLaw" 19 "java/lang/IllegalArgumentException",
   .methodLink "NetRoutesLaw" 15 ⟨"NetRoutes", "link", "(III)I"⟩,
   .instanceMethod ⟨"NetRoutes", "link", "(III)I"⟩,
   .selects "NetRoutes" ⟨"NetRoutes", "link", "(III)I"⟩ ⟨"NetRoutes", "link", "(III)I"⟩,
   .classLink "NetRoutes" 68 "java/lang/IllegalArgumentException",
   .instantiable "java/lang/IllegalArgumentException" 6,
   .selects "java/lang/IllegalArgumentException" ⟨"java/lang/Throwable", "fillInStackTrace", "(I)Ljava/lang/Throwable;"⟩ ⟨"java/lang/Throwable", "fillInStackTrace", "(I)Ljava/lang/Throwable;"⟩,
   .lays "java/lang/IllegalArgumentException" "java/lang/Throwable" "cause" "Ljava/lang/Throwable;",
   .lays "java/lang/IllegalArgumentException" "java/lang/Throwable" "stackTrace" "[Ljava/lang/StackTraceElement;",
   .lays "java/lang/IllegalArgumentException" "java/lang/Throwable" "suppressedExceptions" "Ljava/util/List;",
   .lays "java/lang/IllegalArgumentException" "java/lang/Throwable" "detailMessage" "Ljava/lang/String;",
   .lays "java/lang/IllegalArgumentException" "java/lang/Throwable" "backtrace" "Ljava/lang/Object;",
   .methodLink "NetRoutes" 72 ⟨"java/lang/IllegalArgumentException", "<init>", "(Ljava/lang/String;)V"⟩,
   .instanceMethod ⟨"java/lang/IllegalArgumentException", "<init>", "(Ljava/lang/String;)V"⟩,
   .code ⟨"java/lang/IllegalArgumentException", "<init>", "(Ljava/lang/String;)V"⟩ prog_10_method_2_code 2 none,
   .methodLink "java/lang/IllegalArgumentException" 7 ⟨"java/lang/RuntimeException", "<init>", "(Ljava/lang/String;)V"⟩,
   .lays "java/lang/IllegalArgumentException" "java/lang/Throwable" "depth" "I",
   .superclass "java/lang/IllegalArgumentException" "java/lang/RuntimeException",
   .methodLink "NetRoutesLaw" 77 ⟨"NetRoutesLaw", "route", "(LNetRoutes;III[J)I"⟩,
   .static ⟨"NetRoutesLaw", "route", "(LNetRoutes;III[J)I"⟩,
   .codeWith ⟨"NetRoutesLaw", "route", "(LNetRoutes;III[J)I"⟩ method_5_code 6 (some .int) [(0, 12, 15, 19)],
   .methodLink "NetRoutesLaw" 21 ⟨"NetRoutes", "route", "(III)I"⟩,
   .instanceMethod ⟨"NetRoutes", "route", "(III)I"⟩,
   .selects "NetRoutes" ⟨"NetRoutes", "route", "(III)I"⟩ ⟨"NetRoutes", "route", "(III)I"⟩,
   .methodLink "NetRoutesLaw" 80 ⟨"NetRoutesLaw", "routes", "(LNetRoutes;I[J)I"⟩,
   .static ⟨"NetRoutesLaw", "routes", "(LNetRoutes;I[J)I"⟩,
   .codeWith ⟨"NetRoutesLaw", "routes", "(LNetRoutes;I[J)I"⟩ method_6_code 4 (some .int) [(0, 9, 12, 19)],
   .methodLink "NetRoutesLaw" 24 ⟨"NetRoutes", "routes", "(I)I"⟩,
   .instanceMethod ⟨"NetRoutes", "routes", "(I)I"⟩,
   .selects "NetRoutes" ⟨"NetRoutes", "routes", "(I)I"⟩ ⟨"NetRoutes", "routes", "(I)I"⟩,
   .methodLink "NetRoutesLaw" 84 ⟨"NetRoutesLaw", "fail", "(LNetRoutes;I[J)I"⟩,
   .static ⟨"NetRoutesLaw", "fail", "(LNetRoutes;I[J)I"⟩,
   .codeWith ⟨"NetRoutesLaw", "fail", "(LNetRoutes;I[J)I"⟩ method_7_code 4 (some .int) [(0, 9, 12, 19)],
   .methodLink "NetRoutesLaw" 28 ⟨"NetRoutes", "fail", "(I)I"⟩,
   .instanceMethod ⟨"NetRoutes", "fail", "(I)I"⟩,
   .selects "NetRoutes" ⟨"NetRoutes", "fail", "(I)I"⟩ ⟨"NetRoutes", "fail", "(I)I"⟩,
   .methodLink "NetRoutesLaw" 87 ⟨"NetRoutesLaw", "send", "(LNetRoutes;III[J)I"⟩,
   .static ⟨"NetRoutesLaw", "send", "(LNetRoutes;III[J)I"⟩,
   .codeWith ⟨"NetRoutesLaw", "send", "(LNetRoutes;III[J)I"⟩ method_8_code 6 (some .int) [(0, 12, 15, 19), (0, 12, 19, 13)],
   .methodLink "NetRoutesLaw" 31 ⟨"NetRoutes", "send", "(III)I"⟩,
   .instanceMethod ⟨"NetRoutes", "send", "(III)I"⟩,
   .selects "NetRoutes" ⟨"NetRoutes", "send", "(III)I"⟩ ⟨"NetRoutes", "send", "(III)I"⟩,
   .methodLink "NetRoutesLaw" 90 ⟨"NetRoutesLaw", "load", "(LNetRoutes;I[J)I"⟩,
   .static ⟨"NetRoutesLaw", "load", "(LNetRoutes;I[J)I"⟩,
   .codeWith ⟨"NetRoutesLaw", "load", "(LNetRoutes;I[J)I"⟩ method_9_code 4 (some .int) [(0, 9, 12, 19), (0, 9, 15, 37), (0, 9, 18, 13)],
   .classLink "NetRoutesLaw" 37 "java/lang/IllegalStateException",
   .methodLink "NetRoutesLaw" 34 ⟨"NetRoutes", "load", "(I)I"⟩,
   .instanceMethod ⟨"NetRoutes", "load", "(I)I"⟩,
   .selects "NetRoutes" ⟨"NetRoutes", "load", "(I)I"⟩ ⟨"NetRoutes", "load", "(I)I"⟩,
   .classLink "NetRoutes" 135 "java/lang/IllegalStateException",
   .instantiable "java/lang/IllegalStateException" 6,
   .selects "java/lang/IllegalStateException" ⟨"java/lang/Throwable", "fillInStackTrace", "(I)Ljava/lang/Throwable;"⟩ ⟨"java/lang/Throwable", "fillInStackTrace", "(I)Ljava/lang/Throwable;"⟩,
   .lays "java/lang/IllegalStateException" "java/lang/Throwable" "cause" "Ljava/lang/Throwable;",
   .lays "java/lang/IllegalStateException" "java/lang/Throwable" "stackTrace" "[Ljava/lang/StackTraceElement;",
   .lays "java/lang/IllegalStateException" "java/lang/Throwable" "suppressedExceptions" "Ljava/util/List;",
   .lays "java/lang/IllegalStateException" "java/lang/Throwable" "detailMessage" "Ljava/lang/String;",
   .lays "java/lang/IllegalStateException" "java/lang/Throwable" "backtrace" "Ljava/lang/Object;",
   .methodLink "NetRoutes" 139 ⟨"java/lang/IllegalStateException", "<init>", "(Ljava/lang/String;)V"⟩,
   .instanceMethod ⟨"java/lang/IllegalStateException", "<init>", "(Ljava/lang/String;)V"⟩,
   .code ⟨"java/lang/IllegalStateException", "<init>", "(Ljava/lang/String;)V"⟩ prog_11_method_2_code 2 none,
   .methodLink "java/lang/IllegalStateException" 7 ⟨"java/lang/RuntimeException", "<init>", "(Ljava/lang/String;)V"⟩,
   .lays "java/lang/IllegalStateException" "java/lang/Throwable" "depth" "I",
   .superclass "java/lang/IllegalStateException" "java/lang/RuntimeException",
   .methodLink "NetRoutesLaw" 93 ⟨"NetRoutesLaw", "run", "(LNetRoutes;I[J)I"⟩,
   .static ⟨"NetRoutesLaw", "run", "(LNetRoutes;I[J)I"⟩,
   .codeWith ⟨"NetRoutesLaw", "run", "(LNetRoutes;I[J)I"⟩ method_10_code 4 (some .int) [(0, 9, 12, 19)],
   .methodLink "NetRoutesLaw" 39 ⟨"NetRoutes", "run", "(I)I"⟩,
   .instanceMethod ⟨"NetRoutes", "run", "(I)I"⟩,
   .selects "NetRoutes" ⟨"NetRoutes", "run", "(I)I"⟩ ⟨"NetRoutes", "run", "(I)I"⟩,
   .methodLink "NetRoutesLaw" 96 ⟨"NetRoutesLaw", "packet", "(LNetRoutes;II[J)I"⟩,
   .static ⟨"NetRoutesLaw", "packet", "(LNetRoutes;II[J)I"⟩,
   .codeWith ⟨"NetRoutesLaw", "packet", "(LNetRoutes;II[J)I"⟩ method_11_code 5 (some .int) [(0, 10, 13, 46)],
   .classLink "NetRoutesLaw" 46 "java/lang/IndexOutOfBoundsException",
   .methodLink "NetRoutesLaw" 42 ⟨"NetRoutes", "packet", "(II)I"⟩,
   .instanceMethod ⟨"NetRoutes", "packet", "(II)I"⟩,
   .selects "NetRoutes" ⟨"NetRoutes", "packet", "(II)I"⟩ ⟨"NetRoutes", "packet", "(II)I"⟩,
   .classLink "NetRoutes" 158 "java/lang/IndexOutOfBoundsException",
   .instantiable "java/lang/IndexOutOfBoundsException" 6,
   .selects "java/lang/IndexOutOfBoundsException" ⟨"java/lang/Throwable", "fillInStackTrace", "(I)Ljava/lang/Throwable;"⟩ ⟨"java/lang/Throwable", "fillInStackTrace", "(I)Ljava/lang/Throwable;"⟩,
   .lays "java/lang/IndexOutOfBoundsException" "java/lang/Throwable" "cause" "Ljava/lang/Throwable;",
   .lays "java/lang/IndexOutOfBoundsException" "java/lang/Throwable" "stackTrace" "[Ljava/lang/StackTraceElement;",
   .lays "java/lang/IndexOutOfBoundsException" "java/lang/Throwable" "suppressedExceptions" "Ljava/util/List;",
   .lays "java/lang/IndexOutOfBoundsException" "java/lang/Throwable" "detailMessage" "Ljava/lang/String;",
   .lays "java/lang/IndexOutOfBoundsException" "java/lang/Throwable" "backtrace" "Ljava/lang/Object;",
   .methodLink "NetRoutes" 162 ⟨"java/lang/IndexOutOfBoundsException", "<init>", "(Ljava/lang/String;)V"⟩,
   .instanceMethod ⟨"java/lang/IndexOutOfBoundsException", "<init>", "(Ljava/lang/String;)V"⟩,
   .code ⟨"java/lang/IndexOutOfBoundsException", "<init>", "(Ljava/lang/String;)V"⟩ prog_12_method_2_code 2 none,
   .methodLink "java/lang/IndexOutOfBoundsException" 7 ⟨"java/lang/RuntimeException", "<init>", "(Ljava/lang/String;)V"⟩,
   .lays "java/lang/IndexOutOfBoundsException" "java/lang/Throwable" "depth" "I",
   .superclass "java/lang/IndexOutOfBoundsException" "java/lang/RuntimeException",
   .methodLink "NetRoutesLaw" 100 ⟨"NetRoutesLaw", "channel", "(LNetRoutes;II[J)I"⟩,
   .static ⟨"NetRoutesLaw", "channel", "(LNetRoutes;II[J)I"⟩,
   .codeWith ⟨"NetRoutesLaw", "channel", "(LNetRoutes;II[J)I"⟩ method_12_code 5 (some .int) [(0, 10, 13, 46)],
   .methodLink "NetRoutesLaw" 48 ⟨"NetRoutes", "channel", "(II)I"⟩,
   .instanceMethod ⟨"NetRoutes", "channel", "(II)I"⟩,
   .selects "NetRoutes" ⟨"NetRoutes", "channel", "(II)I"⟩ ⟨"NetRoutes", "channel", "(II)I"⟩,
   .methodLink "NetRoutesLaw" 107 ⟨"NetRoutesLaw", "ringAt", "(LNetRoutes;I[J)I"⟩,
   .static ⟨"NetRoutesLaw", "ringAt", "(LNetRoutes;I[J)I"⟩,
   .codeWith ⟨"NetRoutesLaw", "ringAt", "(LNetRoutes;I[J)I"⟩ method_13_code 4 (some .int) [(0, 9, 12, 46)],
   .methodLink "NetRoutesLaw" 51 ⟨"NetRoutes", "ringAt", "(I)I"⟩,
   .instanceMethod ⟨"NetRoutes", "ringAt", "(I)I"⟩,
   .selects "NetRoutes" ⟨"NetRoutes", "ringAt", "(I)I"⟩ ⟨"NetRoutes", "ringAt", "(I)I"⟩,
   .classLink "NetRoutesLaw" 63 "NetRoutesModel",
   .instantiable "NetRoutesModel" 30,
   .methodLink "NetRoutesLaw" 65 ⟨"NetRoutesModel", "<init>", "(I)V"⟩,
   .instanceMethod ⟨"NetRoutesModel", "<init>", "(I)V"⟩,
   .code ⟨"NetRoutesModel", "<init>", "(I)V"⟩ prog_8_method_1_code 3 none,
   .methodLink "NetRoutesModel" 1 ⟨"java/lang/Object", "<init>", "()V"⟩,
   .superclass "NetRoutesModel" "java/lang/Object",
   .methodLink "NetRoutesLaw" 70 ⟨"NetRoutesModel", "thrown", "()I"⟩,
   .instanceMethod ⟨"NetRoutesModel", "thrown", "()I"⟩,
   .selects "NetRoutesModel" ⟨"NetRoutesModel", "thrown", "()I"⟩ ⟨"NetRoutesModel", "thrown", "()I"⟩,
   .methodLink "NetRoutesLaw" 69 ⟨"NetRoutesModel", "node", "()I"⟩,
   .instanceMethod ⟨"NetRoutesModel", "node", "()I"⟩,
   .selects "NetRoutesModel" ⟨"NetRoutesModel", "node", "()I"⟩ ⟨"NetRoutesModel", "node", "()I"⟩,
   .methodLink "NetRoutesLaw" 76 ⟨"NetRoutesModel", "link", "(III)I"⟩,
   .instanceMethod ⟨"NetRoutesModel", "link", "(III)I"⟩,
   .selects "NetRoutesModel" ⟨"NetRoutesModel", "link", "(III)I"⟩ ⟨"NetRoutesModel", "link", "(III)I"⟩,
   .methodLink "NetRoutesLaw" 79 ⟨"NetRoutesModel", "route", "(III)I"⟩,
   .instanceMethod ⟨"NetRoutesModel", "route", "(III)I"⟩,
   .selects "NetRoutesModel" ⟨"NetRoutesModel", "route", "(III)I"⟩ ⟨"NetRoutesModel", "route", "(III)I"⟩,
   .methodLink "NetRoutesLaw" 83 ⟨"NetRoutesModel", "routes", "(I)I"⟩,
   .instanceMethod ⟨"NetRoutesModel", "routes", "(I)I"⟩,
   .selects "NetRoutesModel" ⟨"NetRoutesModel", "routes", "(I)I"⟩ ⟨"NetRoutesModel", "routes", "(I)I"⟩,
   .methodLink "NetRoutesLaw" 86 ⟨"NetRoutesModel", "fail", "(I)I"⟩,
   .instanceMethod ⟨"NetRoutesModel", "fail", "(I)I"⟩,
   .selects "NetRoutesModel" ⟨"NetRoutesModel", "fail", "(I)I"⟩ ⟨"NetRoutesModel", "fail", "(I)I"⟩,
   .methodLink "NetRoutesLaw" 89 ⟨"NetRoutesModel", "send", "(III)I"⟩,
   .instanceMethod ⟨"NetRoutesModel", "send", "(III)I"⟩,
   .selects "NetRoutesModel" ⟨"NetRoutesModel", "send", "(III)I"⟩ ⟨"NetRoutesModel", "send", "(III)I"⟩,
   .methodLink "NetRoutesLaw" 92 ⟨"NetRoutesModel", "load", "(I)I"⟩,
   .instanceMethod ⟨"NetRoutesModel", "load", "(I)I"⟩,
   .selects "NetRoutesModel" ⟨"NetRoutesModel", "load", "(I)I"⟩ ⟨"NetRoutesModel", "load", "(I)I"⟩,
   .methodLink "NetRoutesLaw" 95 ⟨"NetRoutesModel", "run", "(I)I"⟩,
   .instanceMethod ⟨"NetRoutesModel", "run", "(I)I"⟩,
   .selects "NetRoutesModel" ⟨"NetRoutesModel", "run", "(I)I"⟩ ⟨"NetRoutesModel", "run", "(I)I"⟩,
   .methodLink "NetRoutesLaw" 99 ⟨"NetRoutesModel", "packet", "(II)I"⟩,
   .instanceMethod ⟨"NetRoutesModel", "packet", "(II)I"⟩,
   .selects "NetRoutesModel" ⟨"NetRoutesModel", "packet", "(II)I"⟩ ⟨"NetRoutesModel", "packet", "(II)I"⟩,
   .methodLink "NetRoutesLaw" 102 ⟨"NetRoutesModel", "channel", "(II)I"⟩,
   .instanceMethod ⟨"NetRoutesModel", "channel", "(II)I"⟩,
   .selects "NetRoutesModel" ⟨"NetRoutesModel", "channel", "(II)I"⟩ ⟨"NetRoutesModel", "channel", "(II)I"⟩,
   .methodLink "NetRoutesLaw" 106 ⟨"NetRoutesModel", "ring", "()I"⟩,
   .instanceMethod ⟨"NetRoutesModel", "ring", "()I"⟩,
   .selects "NetRoutesModel" ⟨"NetRoutesModel", "ring", "()I"⟩ ⟨"NetRoutesModel", "ring", "()I"⟩,
   .methodLink "NetRoutesLaw" 109 ⟨"NetRoutesModel", "ringAt", "(I)I"⟩,
   .instanceMethod ⟨"NetRoutesModel", "ringAt", "(I)I"⟩,
   .selects "NetRoutesModel" ⟨"NetRoutesModel", "ringAt", "(I)I"⟩ ⟨"NetRoutesModel", "ringAt", "(I)I"⟩,
   .methodLink "NetRoutesLaw" 114 ⟨"NetRoutesModel", "stuck", "()Z"⟩,
   .instanceMethod ⟨"NetRoutesModel", "stuck", "()Z"⟩,
   .selects "NetRoutesModel" ⟨"NetRoutesModel", "stuck", "()Z"⟩ ⟨"NetRoutesModel", "stuck", "()Z"⟩,
   .methodLink "NetRoutesLaw" 118 ⟨"NetRoutesModel", "count", "(I)I"⟩,
   .instanceMethod ⟨"NetRoutesModel", "count", "(I)I"⟩,
   .selects "NetRoutesModel" ⟨"NetRoutesModel", "count", "(I)I"⟩ ⟨"NetRoutesModel", "count", "(I)I"⟩,
   .arrayClass .long,
   .sameMethod "java/lang/Throwable" "java/lang/Throwable" "fillInStackTrace" "(I)Ljava/lang/Throwable;"]
set_option maxRecDepth 100000 in
theorem TT_all : TT.all goodWord = true := by decide +kernel
set_option maxRecDepth 100000 in
theorem in_CN : ∀ w ∈ u_ws R_CN F_CN 6, w ∈ TT := by decide +kernel
set_option maxRecDepth 100000 in
theorem in_CP : ∀ w ∈ u_ws R_CP F_CP 8, w ∈ TT := by decide +kernel
set_option maxRecDepth 100000 in
theorem in_CK : ∀ w ∈ u_ws R_CK F_CK 7, w ∈ TT := by decide +kernel
set_option maxRecDepth 100000 in
theorem in_CI : ∀ w ∈ u_ws R_CI F_CI 8, w ∈ TT := by decide +kernel
set_option maxRecDepth 100000 in
theorem in_CT : ∀ w ∈ u_ws R_CT F_CT 10, w ∈ TT := by decide +kernel
set_option maxRecDepth 100000 in
theorem in_CR : ∀ w ∈ u_ws R_CR F_CR 7, w ∈ TT := by decide +kernel
set_option maxRecDepth 100000 in
theorem in_M : ∀ w ∈ u_ws R_M F_M 30, w ∈ TT := by decide +kernel
abbrev clsT : List vw_C := [(R_CN, F_CN, 6), (R_CP, F_CP, 8), (R_CK, F_CK, 7), (R_CI, F_CI, 8), (R_CT, F_CT, 10), (R_CR, F_CR, 7), (R_M, F_M, 30)]
abbrev tyT (cI cZ : ClassId) : List (ClassId × FieldType) := [(cI, .int), (cZ, .boolean)]
